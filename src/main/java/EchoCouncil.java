import java.util.NoSuchElementException;

// A council that lets echoes to shy singers. All that goes back when a change is undone stands in
// a State; what stays then (input, fault position, reason, line, what was saved) stands beside it.
public final class EchoCouncil {
    private static final int MOST_ROOMS = 6;
    private static final int MOST_ECHOES = 8;
    private static final int MOST_SINGERS = 6;
    private static final int MOST_SIZE = 9;
    private static final int MOST_STRENGTH = 9;
    private static final int MOST_SHYNESS = 9;
    private static final int MOST_VERSES = 9;
    private static final int MOST_BREATH = 99;
    private static final int MOST_DAMP = 9;
    private static final int NIGHT_DRIES = 2;
    private static final int NIGHT_BREATH = 3;
    private static final int NOBODY = -1;
    private static final int OUTSIDE = -1;
    private static final int NO_FAULT = -1;
    private static final int FIRST_SIGN = 32;
    private static final int LAST_SIGN = 126;
    private static final int MOST_SIGNS = 60;
    // An order has 5 characters at least, and one more stands between two of them.
    private static final int MOST_ORDERS = 10;
    private static final int MOST_NUMBERS = 3;
    private static final int MOST_UNDONE = 8;

    private static final int ALL_ARE_THERE = 1;
    private static final int NOT_THERE = 2;
    private static final int OUT_OF_RANGE = 3;
    private static final int THERE_ALREADY = 4;
    private static final int ROOM_FULL = 5;
    private static final int TOO_MANY_OTHERS = 6;
    private static final int ECHO_LET = 7;
    private static final int NOT_WITH_ECHO = 8;
    private static final int TOO_LITTLE_BREATH = 9;
    private static final int SINGER_OUTSIDE = 10;
    private static final int NOT_LET_TO_SINGER = 11;
    private static final int ORDER_REFUSED = 12;

    private static final OrderKind[] KINDS = OrderKind.values();

    private final State now = new State();
    private final State before = new State();
    private final State saved = new State();
    private boolean isSaved;
    private final Past past = new Past();
    private final OrderText text = new OrderText();
    private final Refusal refusal = new Refusal();
    private final StringBuilder line = new StringBuilder();

    public EchoCouncil() {
    }

    public int room(int size) throws UnsupportedOperationException {
        return change(OrderKind.ROOM, size, 0, 0);
    }

    public int echo(int room, int strength) throws UnsupportedOperationException {
        return change(OrderKind.ECHO, room, strength, 0);
    }

    public int singer(int shyness, int breath) throws UnsupportedOperationException {
        return change(OrderKind.SINGER, shyness, breath, 0);
    }

    public int enter(int singer, int room) throws UnsupportedOperationException {
        return change(OrderKind.ENTER, singer, room, 0);
    }

    public int out(int singer) throws UnsupportedOperationException {
        return change(OrderKind.OUT, singer, 0, 0);
    }

    public int carry(int echo, int room) throws UnsupportedOperationException {
        return change(OrderKind.CARRY, echo, room, 0);
    }

    public int rent(int singer, int echo, int verses) throws UnsupportedOperationException {
        return change(OrderKind.RENT, singer, echo, verses);
    }

    public int back(int singer, int echo) throws UnsupportedOperationException {
        return change(OrderKind.BACK, singer, echo, 0);
    }

    public int sing(int singer) throws UnsupportedOperationException {
        return change(OrderKind.SING, singer, 0, 0);
    }

    public int night() {
        past.keep(now);
        return now.letNightPass();
    }

    public int roomOf(int room, int what) throws IndexOutOfBoundsException, IllegalArgumentException {
        checkRoom(room);
        switch (what) {
            case 0:
                return now.rooms.size[room];
            case 1:
                return now.rooms.damp[room];
            case 2:
                return Integer.bitCount(now.singersIn(room));
            case 3:
                return Integer.bitCount(now.echoesIn(room));
            case 4:
                return Integer.bitCount(now.echoesIn(room) & ~now.freeIn(room));
            case 5:
                return now.rooms.verses[room];
            default:
                throw new IllegalArgumentException("no such number of a room");
        }
    }

    public int echoOf(int echo, int what) throws IndexOutOfBoundsException, IllegalArgumentException {
        checkEcho(echo);
        switch (what) {
            case 0:
                return now.echoes.room[echo];
            case 1:
                return now.echoes.strength[echo];
            case 2:
                return now.echoes.singer[echo];
            case 3:
                return now.echoes.verses[echo];
            case 4:
                return now.echoes.tones[echo];
            default:
                throw new IllegalArgumentException("no such number of an echo");
        }
    }

    public int singerOf(int singer, int what) throws IndexOutOfBoundsException, IllegalArgumentException {
        checkSinger(singer);
        switch (what) {
            case 0:
                return now.singers.shyness[singer];
            case 1:
                return now.singers.breath[singer];
            case 2:
                return now.singers.room[singer];
            case 3:
                return now.countLetTo(singer);
            case 4:
                return now.singers.verses[singer];
            case 5:
                return now.singers.tones[singer];
            case 6:
                return now.heldOf(singer);
            default:
                throw new IllegalArgumentException("no such number of a singer");
        }
    }

    public int tones(int singer) throws IndexOutOfBoundsException, NoSuchElementException {
        checkSingerInside(singer);
        return now.tonesInRoom(singer, now.singers.room[singer]);
    }

    public int tonesAgain(int singer) throws IndexOutOfBoundsException, NoSuchElementException {
        checkSingerInside(singer);
        return now.tonesByStrength(singer);
    }

    public int verses(int singer) throws IndexOutOfBoundsException, NoSuchElementException {
        checkSingerInside(singer);
        return now.versesInThought(singer);
    }

    public int versesAgain(int singer) throws IndexOutOfBoundsException, NoSuchElementException {
        checkSingerInside(singer);
        return now.versesByEcho(singer);
    }

    public int would(int singer, int room) throws IndexOutOfBoundsException {
        checkSinger(singer);
        checkRoom(room);
        return now.tonesInRoom(singer, room);
    }

    public int bestRoom(int singer) throws IndexOutOfBoundsException, NoSuchElementException {
        checkSinger(singer);
        if (now.rooms.count == 0) {
            throw new NoSuchElementException("there are no rooms");
        }
        int best = 0;
        for (int room = 1; room < now.rooms.count; room++) {
            if (now.tonesInRoom(singer, room) > now.tonesInRoom(singer, best)) {
                best = room;
            }
        }
        return best;
    }

    public boolean canEnter(int singer, int room) throws IndexOutOfBoundsException {
        checkSinger(singer);
        checkRoom(room);
        return now.singers.room[singer] != room && !now.isFull(room) && !now.isTooShyFor(singer, room);
    }

    public boolean canRent(int singer, int echo) throws IndexOutOfBoundsException {
        checkSinger(singer);
        checkEcho(echo);
        return !now.isLet(echo) && now.isWithEcho(singer, echo) && now.canPayFor(singer, echo);
    }

    public int backFor(int echo) throws IndexOutOfBoundsException, NoSuchElementException {
        checkEcho(echo);
        if (!now.isLet(echo)) {
            throw new NoSuchElementException("the echo is not let");
        }
        return now.aboveDamp(echo);
    }

    public int others(int room) throws IndexOutOfBoundsException {
        checkRoom(room);
        return now.singersIn(room);
    }

    public int free(int room) throws IndexOutOfBoundsException {
        checkRoom(room);
        return now.freeIn(room);
    }

    public int dryIn(int room) throws IndexOutOfBoundsException {
        checkRoom(room);
        return (now.rooms.damp[room] + NIGHT_DRIES - 1) / NIGHT_DRIES;
    }

    public int dampest(int place) throws NoSuchElementException {
        for (int room = 0; room < now.rooms.count; room++) {
            if (countRoomsAhead(room) == place) {
                return room;
            }
        }
        throw new NoSuchElementException("no such place in the order of rooms");
    }

    public int ranked(int kind, int place) throws IllegalArgumentException, NoSuchElementException {
        if (kind < 0 || kind > 3) {
            throw new IllegalArgumentException("no such order of singers");
        }
        for (int singer = 0; singer < now.singers.count; singer++) {
            if (countSingersAhead(kind, singer) == place) {
                return singer;
            }
        }
        throw new NoSuchElementException("no such place in the order of singers");
    }

    public int strongest(int place) throws NoSuchElementException {
        for (int echo = 0; echo < now.echoes.count; echo++) {
            if (countEchoesAhead(echo) == place) {
                return echo;
            }
        }
        throw new NoSuchElementException("no such place in the order of echoes");
    }

    public boolean isTold() {
        for (int singer = 0; singer < now.singers.count; singer++) {
            if (now.isInside(singer) && !bothWaysAgree(singer)) {
                return false;
            }
        }
        return now.deposits == now.givenBack + now.kept + now.heldOfAll();
    }

    public int append(char character) throws IllegalArgumentException, IllegalStateException {
        if (character < FIRST_SIGN || character > LAST_SIGN) {
            throw new IllegalArgumentException("the character cannot be in the input");
        }
        if (text.length >= MOST_SIGNS) {
            throw new IllegalStateException("the input is full");
        }
        text.signs[text.length] = character;
        text.length++;
        return text.length;
    }

    public int run() throws IllegalArgumentException, UnsupportedOperationException {
        text.readAll();
        text.length = 0;
        if (text.fault != NO_FAULT) {
            throw new IllegalArgumentException("the text has a fault");
        }
        if (!doesAllOrders()) {
            throw new UnsupportedOperationException("an order is refused");
        }
        return text.orders;
    }

    public int faultPosition() {
        return text.fault;
    }

    public int reason(int depth, boolean isDetail) throws IllegalArgumentException, NoSuchElementException {
        if (depth < 0 || depth > 1) {
            throw new IllegalArgumentException("no such depth");
        }
        if (!refusal.isKept) {
            throw new NoSuchElementException("nothing was refused");
        }
        if (depth == 0) {
            return isDetail ? refusal.detail : refusal.number;
        }
        if (!refusal.hasCause) {
            throw new NoSuchElementException("there is no cause");
        }
        return isDetail ? refusal.causeDetail : refusal.causeNumber;
    }

    public int tellRoom(int room) throws IndexOutOfBoundsException {
        checkRoom(room);
        line.setLength(0);
        line.append(room).append('[').append(now.rooms.size[room]);
        line.append('~').append(now.rooms.damp[room]).append(']');
        writeEchoesIn(room);
        writeSingersIn(room);
        return line.length();
    }

    public int tellEcho(int echo) throws IndexOutOfBoundsException {
        checkEcho(echo);
        line.setLength(0);
        line.append(echo).append('^').append(now.echoes.strength[echo]);
        line.append('@').append(now.echoes.room[echo]);
        if (now.isLet(echo)) {
            line.append('=').append(now.echoes.singer[echo]);
            line.append('/').append(now.echoes.verses[echo]);
        }
        return line.length();
    }

    public int tellSinger(int singer) throws IndexOutOfBoundsException {
        checkSinger(singer);
        line.setLength(0);
        line.append(singer).append('!').append(now.singers.shyness[singer]);
        line.append('%').append(now.singers.breath[singer]);
        if (now.isInside(singer)) {
            line.append('@').append(now.singers.room[singer]);
        }
        return line.length();
    }

    public char character(int index) throws IndexOutOfBoundsException {
        if (index < 0 || index >= line.length()) {
            throw new IndexOutOfBoundsException("no such index in the line");
        }
        return line.charAt(index);
    }

    public int account(int what) throws IllegalArgumentException {
        switch (what) {
            case 0:
                return now.rooms.count;
            case 1:
                return now.echoes.count;
            case 2:
                return now.singers.count;
            case 3:
                return now.countLet();
            case 4:
                return now.nights;
            case 5:
                return now.dampOfAll();
            case 6:
                return now.versesOfAll();
            case 7:
                return now.tonesOfAll();
            case 8:
                return now.deposits;
            case 9:
                return now.givenBack;
            case 10:
                return now.kept;
            case 11:
                return now.heldOfAll();
            case 12:
                return text.length;
            case 13:
                return past.count;
            default:
                throw new IllegalArgumentException("no such account");
        }
    }

    public double meanDamp() throws ArithmeticException {
        if (now.rooms.count == 0) {
            throw new ArithmeticException("there are no rooms");
        }
        return (double) now.dampOfAll() / now.rooms.count;
    }

    public float letShare() throws ArithmeticException {
        if (now.echoes.count == 0) {
            throw new ArithmeticException("there are no echoes");
        }
        return (float) now.countLet() / now.echoes.count;
    }

    public int undo() throws IllegalStateException {
        if (past.count == 0) {
            throw new IllegalStateException("there is no change to undo");
        }
        past.takeBackInto(now);
        return past.count;
    }

    public int save() {
        saved.copyFrom(now);
        isSaved = true;
        return now.echoes.count;
    }

    public int restore() throws IllegalStateException {
        if (!isSaved) {
            throw new IllegalStateException("nothing was saved");
        }
        now.copyFrom(saved);
        past.forget();
        return now.echoes.count;
    }

    private void checkRoom(int room) {
        if (!now.hasRoom(room)) {
            throw new IndexOutOfBoundsException("there is no such room");
        }
    }

    private void checkEcho(int echo) {
        if (!now.hasEcho(echo)) {
            throw new IndexOutOfBoundsException("there is no such echo");
        }
    }

    private void checkSinger(int singer) {
        if (!now.hasSinger(singer)) {
            throw new IndexOutOfBoundsException("there is no such singer");
        }
    }

    private void checkSingerInside(int singer) {
        checkSinger(singer);
        if (!now.isInside(singer)) {
            throw new NoSuchElementException("the singer is outside");
        }
    }

    private int change(OrderKind kind, int first, int second, int third) {
        if (isRefused(kind, first, second, third)) {
            throw new UnsupportedOperationException("this is refused");
        }
        past.keep(now);
        return doOrder(kind, first, second, third);
    }

    // The orders are done on the state itself, as each one is looked at after those before it;
    // so a refused one needs the state from before the first.
    private boolean doesAllOrders() {
        before.copyFrom(now);
        for (int order = 0; order < text.orders; order++) {
            int[] numbers = text.numbers[order];
            if (isRefused(text.kinds[order], numbers[0], numbers[1], numbers[2])) {
                refusal.putBehind(ORDER_REFUSED, order);
                now.copyFrom(before);
                return false;
            }
            doOrder(text.kinds[order], numbers[0], numbers[1], numbers[2]);
        }
        past.keep(before);
        return true;
    }

    // Does an order that is not refused, and returns what its method answers.
    private int doOrder(OrderKind kind, int first, int second, int third) {
        switch (kind) {
            case ROOM:
                return now.addRoom(first);
            case ECHO:
                return now.addEcho(first, second);
            case SINGER:
                return now.addSinger(first, second);
            case ENTER:
                return now.moveIn(first, second);
            case OUT:
                return now.moveOut(first);
            case CARRY:
                return now.moveEcho(first, second);
            case RENT:
                return now.letEcho(first, second, third);
            case BACK:
                return now.endLetting(second);
            case SING:
                return now.singVerse(first);
            default:
                return now.letNightPass();
        }
    }

    // Keeps the reason if the order is refused; else changes nothing.
    private boolean isRefused(OrderKind kind, int first, int second, int third) {
        switch (kind) {
            case ROOM:
                return isRoomRefused(first);
            case ECHO:
                return isEchoRefused(first, second);
            case SINGER:
                return isSingerRefused(first, second);
            case ENTER:
                return isEnteringRefused(first, second);
            case OUT:
                return isGoingOutRefused(first);
            case CARRY:
                return isCarryingRefused(first, second);
            case RENT:
                return isRentingRefused(first, second, third);
            case BACK:
                return isGivingBackRefused(first, second);
            case SING:
                return isSingingRefused(first);
            default:
                return false;
        }
    }

    private boolean isRoomRefused(int size) {
        if (size < 1 || size > MOST_SIZE) {
            return refusal.keep(OUT_OF_RANGE, size);
        }
        if (now.rooms.count >= MOST_ROOMS) {
            return refusal.keep(ALL_ARE_THERE, MOST_ROOMS);
        }
        return false;
    }

    private boolean isEchoRefused(int room, int strength) {
        if (!now.hasRoom(room)) {
            return refusal.keep(NOT_THERE, room);
        }
        if (strength < 1 || strength > MOST_STRENGTH) {
            return refusal.keep(OUT_OF_RANGE, strength);
        }
        if (now.echoes.count >= MOST_ECHOES) {
            return refusal.keep(ALL_ARE_THERE, MOST_ECHOES);
        }
        return false;
    }

    private boolean isSingerRefused(int shyness, int breath) {
        if (shyness < 0 || shyness > MOST_SHYNESS) {
            return refusal.keep(OUT_OF_RANGE, shyness);
        }
        if (breath < 0 || breath > MOST_BREATH) {
            return refusal.keep(OUT_OF_RANGE, breath);
        }
        if (now.singers.count >= MOST_SINGERS) {
            return refusal.keep(ALL_ARE_THERE, MOST_SINGERS);
        }
        return false;
    }

    private boolean isEnteringRefused(int singer, int room) {
        if (!now.hasSinger(singer)) {
            return refusal.keep(NOT_THERE, singer);
        }
        if (!now.hasRoom(room)) {
            return refusal.keep(NOT_THERE, room);
        }
        if (now.singers.room[singer] == room) {
            return refusal.keep(THERE_ALREADY, room);
        }
        if (now.isFull(room)) {
            return refusal.keep(ROOM_FULL, now.rooms.size[room]);
        }
        if (now.isTooShyFor(singer, room)) {
            return refusal.keep(TOO_MANY_OTHERS, Integer.bitCount(now.singersIn(room)));
        }
        return false;
    }

    private boolean isGoingOutRefused(int singer) {
        if (!now.hasSinger(singer)) {
            return refusal.keep(NOT_THERE, singer);
        }
        if (!now.isInside(singer)) {
            return refusal.keep(SINGER_OUTSIDE, singer);
        }
        return false;
    }

    private boolean isCarryingRefused(int echo, int room) {
        if (!now.hasEcho(echo)) {
            return refusal.keep(NOT_THERE, echo);
        }
        if (!now.hasRoom(room)) {
            return refusal.keep(NOT_THERE, room);
        }
        if (now.echoes.room[echo] == room) {
            return refusal.keep(THERE_ALREADY, room);
        }
        if (now.isLet(echo)) {
            return refusal.keep(ECHO_LET, now.echoes.singer[echo]);
        }
        return false;
    }

    private boolean isRentingRefused(int singer, int echo, int verses) {
        if (!now.hasSinger(singer)) {
            return refusal.keep(NOT_THERE, singer);
        }
        if (!now.hasEcho(echo)) {
            return refusal.keep(NOT_THERE, echo);
        }
        if (verses < 1 || verses > MOST_VERSES) {
            return refusal.keep(OUT_OF_RANGE, verses);
        }
        if (now.isLet(echo)) {
            return refusal.keep(ECHO_LET, now.echoes.singer[echo]);
        }
        if (!now.isWithEcho(singer, echo)) {
            return refusal.keep(NOT_WITH_ECHO, now.echoes.room[echo]);
        }
        if (!now.canPayFor(singer, echo)) {
            return refusal.keep(TOO_LITTLE_BREATH, now.singers.breath[singer]);
        }
        return false;
    }

    private boolean isGivingBackRefused(int singer, int echo) {
        if (!now.hasSinger(singer)) {
            return refusal.keep(NOT_THERE, singer);
        }
        if (!now.hasEcho(echo)) {
            return refusal.keep(NOT_THERE, echo);
        }
        if (now.echoes.singer[echo] != singer) {
            return refusal.keep(NOT_LET_TO_SINGER, now.echoes.singer[echo]);
        }
        return false;
    }

    private boolean isSingingRefused(int singer) {
        if (!now.hasSinger(singer)) {
            return refusal.keep(NOT_THERE, singer);
        }
        if (!now.isInside(singer)) {
            return refusal.keep(SINGER_OUTSIDE, singer);
        }
        if (now.singers.breath[singer] < 1) {
            return refusal.keep(TOO_LITTLE_BREATH, now.singers.breath[singer]);
        }
        return false;
    }

    private boolean bothWaysAgree(int singer) {
        return now.tonesInRoom(singer, now.singers.room[singer]) == now.tonesByStrength(singer)
            && now.versesInThought(singer) == now.versesByEcho(singer);
    }

    private int countRoomsAhead(int room) {
        int ahead = 0;
        for (int other = 0; other < now.rooms.count; other++) {
            if (other != room && isDamperThan(other, room)) {
                ahead++;
            }
        }
        return ahead;
    }

    private boolean isDamperThan(int room, int other) {
        if (now.rooms.damp[room] != now.rooms.damp[other]) {
            return now.rooms.damp[room] > now.rooms.damp[other];
        }
        int singers = Integer.bitCount(now.singersIn(room));
        int otherSingers = Integer.bitCount(now.singersIn(other));
        if (singers != otherSingers) {
            return singers > otherSingers;
        }
        return room < other;
    }

    private int countSingersAhead(int kind, int singer) {
        int value = rankedValue(kind, singer);
        int ahead = 0;
        for (int other = 0; other < now.singers.count; other++) {
            int otherValue = rankedValue(kind, other);
            if (otherValue > value || otherValue == value && other < singer) {
                ahead++;
            }
        }
        return ahead;
    }

    private int rankedValue(int kind, int singer) {
        switch (kind) {
            case 0:
                return now.singers.breath[singer];
            case 1:
                return now.singers.tones[singer];
            case 2:
                return now.singers.verses[singer];
            default:
                return now.singers.shyness[singer];
        }
    }

    private int countEchoesAhead(int echo) {
        int ahead = 0;
        for (int other = 0; other < now.echoes.count; other++) {
            if (other != echo && isStrongerThan(other, echo)) {
                ahead++;
            }
        }
        return ahead;
    }

    private boolean isStrongerThan(int echo, int other) {
        if (now.echoes.strength[echo] != now.echoes.strength[other]) {
            return now.echoes.strength[echo] > now.echoes.strength[other];
        }
        if (now.isLet(echo) != now.isLet(other)) {
            return now.isLet(other);
        }
        return echo < other;
    }

    private void writeEchoesIn(int room) {
        for (int echo = 0; echo < now.echoes.count; echo++) {
            if (now.echoes.room[echo] == room) {
                line.append(echo);
                if (now.isLet(echo)) {
                    line.append('*');
                }
            }
        }
    }

    private void writeSingersIn(int room) {
        for (int singer = 0; singer < now.singers.count; singer++) {
            if (now.singers.room[singer] == room) {
                line.append('s').append(singer);
            }
        }
    }

    private static final class Rooms {
        int count;
        final int[] size = new int[MOST_ROOMS];
        final int[] damp = new int[MOST_ROOMS];
        final int[] verses = new int[MOST_ROOMS];

        void copyFrom(Rooms other) {
            count = other.count;
            System.arraycopy(other.size, 0, size, 0, MOST_ROOMS);
            System.arraycopy(other.damp, 0, damp, 0, MOST_ROOMS);
            System.arraycopy(other.verses, 0, verses, 0, MOST_ROOMS);
        }
    }

    private static final class Echoes {
        int count;
        final int[] room = new int[MOST_ECHOES];
        final int[] strength = new int[MOST_ECHOES];
        final int[] singer = new int[MOST_ECHOES];
        final int[] verses = new int[MOST_ECHOES];
        final int[] tones = new int[MOST_ECHOES];

        void copyFrom(Echoes other) {
            count = other.count;
            System.arraycopy(other.room, 0, room, 0, MOST_ECHOES);
            System.arraycopy(other.strength, 0, strength, 0, MOST_ECHOES);
            System.arraycopy(other.singer, 0, singer, 0, MOST_ECHOES);
            System.arraycopy(other.verses, 0, verses, 0, MOST_ECHOES);
            System.arraycopy(other.tones, 0, tones, 0, MOST_ECHOES);
        }
    }

    private static final class Singers {
        int count;
        final int[] shyness = new int[MOST_SINGERS];
        final int[] breath = new int[MOST_SINGERS];
        final int[] room = new int[MOST_SINGERS];
        final int[] verses = new int[MOST_SINGERS];
        final int[] tones = new int[MOST_SINGERS];

        void copyFrom(Singers other) {
            count = other.count;
            System.arraycopy(other.shyness, 0, shyness, 0, MOST_SINGERS);
            System.arraycopy(other.breath, 0, breath, 0, MOST_SINGERS);
            System.arraycopy(other.room, 0, room, 0, MOST_SINGERS);
            System.arraycopy(other.verses, 0, verses, 0, MOST_SINGERS);
            System.arraycopy(other.tones, 0, tones, 0, MOST_SINGERS);
        }
    }

    // All that goes back when a change is undone. Its callers have looked whether the rooms,
    // echoes and singers that they name are there, and whether what they want is refused.
    private static final class State {
        final Rooms rooms = new Rooms();
        final Echoes echoes = new Echoes();
        final Singers singers = new Singers();
        int nights;
        int deposits;
        int givenBack;
        int kept;

        void copyFrom(State other) {
            rooms.copyFrom(other.rooms);
            echoes.copyFrom(other.echoes);
            singers.copyFrom(other.singers);
            nights = other.nights;
            deposits = other.deposits;
            givenBack = other.givenBack;
            kept = other.kept;
        }

        boolean hasRoom(int room) {
            return room >= 0 && room < rooms.count;
        }

        boolean hasEcho(int echo) {
            return echo >= 0 && echo < echoes.count;
        }

        boolean hasSinger(int singer) {
            return singer >= 0 && singer < singers.count;
        }

        boolean isInside(int singer) {
            return singers.room[singer] != OUTSIDE;
        }

        boolean isLet(int echo) {
            return echoes.singer[echo] != NOBODY;
        }

        boolean isWithEcho(int singer, int echo) {
            return singers.room[singer] == echoes.room[echo];
        }

        boolean canPayFor(int singer, int echo) {
            return singers.breath[singer] >= echoes.strength[echo];
        }

        boolean isFull(int room) {
            return Integer.bitCount(singersIn(room)) >= rooms.size[room];
        }

        // Asked for a singer who is not in the room, so all in it are others.
        boolean isTooShyFor(int singer, int room) {
            return Integer.bitCount(singersIn(room)) > (MOST_SHYNESS - singers.shyness[singer]) / 3;
        }

        int singersIn(int room) {
            int set = 0;
            for (int singer = 0; singer < singers.count; singer++) {
                if (singers.room[singer] == room) {
                    set |= 1 << singer;
                }
            }
            return set;
        }

        int echoesIn(int room) {
            int set = 0;
            for (int echo = 0; echo < echoes.count; echo++) {
                if (echoes.room[echo] == room) {
                    set |= 1 << echo;
                }
            }
            return set;
        }

        int freeIn(int room) {
            int set = 0;
            for (int echo = 0; echo < echoes.count; echo++) {
                if (echoes.room[echo] == room && !isLet(echo)) {
                    set |= 1 << echo;
                }
            }
            return set;
        }

        // How many tones the echo returns of a verse, and how much of its deposit is given back.
        int aboveDamp(int echo) {
            return Math.max(0, echoes.strength[echo] - rooms.damp[echoes.room[echo]]);
        }

        boolean isHeard(int echo, int singer, int room) {
            return echoes.room[echo] == room && echoes.singer[echo] == singer;
        }

        int tonesInRoom(int singer, int room) {
            int sum = 0;
            for (int echo = 0; echo < echoes.count; echo++) {
                if (isHeard(echo, singer, room)) {
                    sum += aboveDamp(echo);
                }
            }
            return sum;
        }

        int tonesByStrength(int singer) {
            int room = singers.room[singer];
            int sum = 0;
            for (int strength = rooms.damp[room] + 1; strength <= MOST_STRENGTH; strength++) {
                sum += countHeardOf(strength, singer, room) * (strength - rooms.damp[room]);
            }
            return sum;
        }

        int countHeardOf(int strength, int singer, int room) {
            int count = 0;
            for (int echo = 0; echo < echoes.count; echo++) {
                if (isHeard(echo, singer, room) && echoes.strength[echo] == strength) {
                    count++;
                }
            }
            return count;
        }

        int versesInThought(int singer) {
            int sung = 0;
            while (sung < MOST_VERSES && tonesAfter(singer, sung) > 0) {
                sung++;
            }
            return sung;
        }

        // The tones of one more verse of the singer after some sung in thought.
        int tonesAfter(int singer, int sung) {
            int room = singers.room[singer];
            int damp = Math.min(MOST_DAMP, rooms.damp[room] + sung);
            int sum = 0;
            for (int echo = 0; echo < echoes.count; echo++) {
                if (isHeard(echo, singer, room) && echoes.verses[echo] > sung) {
                    sum += Math.max(0, echoes.strength[echo] - damp);
                }
            }
            return sum;
        }

        int versesByEcho(int singer) {
            int most = 0;
            for (int echo = 0; echo < echoes.count; echo++) {
                if (isHeard(echo, singer, singers.room[singer])) {
                    most = Math.max(most, Math.min(echoes.verses[echo], aboveDamp(echo)));
                }
            }
            return most;
        }

        int countLetTo(int singer) {
            int count = 0;
            for (int echo = 0; echo < echoes.count; echo++) {
                if (echoes.singer[echo] == singer) {
                    count++;
                }
            }
            return count;
        }

        int countLet() {
            return echoes.count - countLetTo(NOBODY);
        }

        int heldOf(int singer) {
            int sum = 0;
            for (int echo = 0; echo < echoes.count; echo++) {
                if (echoes.singer[echo] == singer) {
                    sum += echoes.strength[echo];
                }
            }
            return sum;
        }

        int heldOfAll() {
            int sum = 0;
            for (int singer = 0; singer < singers.count; singer++) {
                sum += heldOf(singer);
            }
            return sum;
        }

        int dampOfAll() {
            int sum = 0;
            for (int room = 0; room < rooms.count; room++) {
                sum += rooms.damp[room];
            }
            return sum;
        }

        int versesOfAll() {
            int sum = 0;
            for (int room = 0; room < rooms.count; room++) {
                sum += rooms.verses[room];
            }
            return sum;
        }

        int tonesOfAll() {
            int sum = 0;
            for (int echo = 0; echo < echoes.count; echo++) {
                sum += echoes.tones[echo];
            }
            return sum;
        }

        int addRoom(int size) {
            int room = rooms.count;
            rooms.count++;
            rooms.size[room] = size;
            rooms.damp[room] = 0;
            rooms.verses[room] = 0;
            return room;
        }

        int addEcho(int room, int strength) {
            int echo = echoes.count;
            echoes.count++;
            echoes.room[echo] = room;
            echoes.strength[echo] = strength;
            echoes.singer[echo] = NOBODY;
            echoes.verses[echo] = 0;
            echoes.tones[echo] = 0;
            return echo;
        }

        int addSinger(int shyness, int breath) {
            int singer = singers.count;
            singers.count++;
            singers.shyness[singer] = shyness;
            singers.breath[singer] = breath;
            singers.room[singer] = OUTSIDE;
            singers.verses[singer] = 0;
            singers.tones[singer] = 0;
            return singer;
        }

        int moveIn(int singer, int room) {
            singers.room[singer] = room;
            return Integer.bitCount(singersIn(room));
        }

        int moveOut(int singer) {
            int left = singers.room[singer];
            singers.room[singer] = OUTSIDE;
            return left;
        }

        int moveEcho(int echo, int room) {
            int left = echoes.room[echo];
            echoes.room[echo] = room;
            return left;
        }

        int letEcho(int singer, int echo, int verses) {
            int deposit = echoes.strength[echo];
            singers.breath[singer] -= deposit;
            deposits += deposit;
            echoes.singer[echo] = singer;
            echoes.verses[echo] = verses;
            return deposit;
        }

        // What is lost above the most breath counts as given back, so all of it is answered.
        int endLetting(int echo) {
            int singer = echoes.singer[echo];
            int given = aboveDamp(echo);
            singers.breath[singer] = Math.min(MOST_BREATH, singers.breath[singer] + given);
            givenBack += given;
            kept += echoes.strength[echo] - given;
            echoes.singer[echo] = NOBODY;
            echoes.verses[echo] = 0;
            return given;
        }

        // The room gets damper last, so lettings end by how damp it was for the verse.
        int singVerse(int singer) {
            int room = singers.room[singer];
            int returned = 0;
            singers.breath[singer]--;
            for (int echo = 0; echo < echoes.count; echo++) {
                if (isHeard(echo, singer, room)) {
                    returned += echoVerse(echo);
                }
            }
            singers.verses[singer]++;
            singers.tones[singer] += returned;
            rooms.verses[room]++;
            rooms.damp[room] = Math.min(MOST_DAMP, rooms.damp[room] + 1);
            return returned;
        }

        int echoVerse(int echo) {
            int returned = aboveDamp(echo);
            echoes.tones[echo] += returned;
            echoes.verses[echo]--;
            if (echoes.verses[echo] == 0) {
                endLetting(echo);
            }
            return returned;
        }

        int letNightPass() {
            nights++;
            for (int room = 0; room < rooms.count; room++) {
                rooms.damp[room] = Math.max(0, rooms.damp[room] - NIGHT_DRIES);
            }
            int got = 0;
            for (int singer = 0; singer < singers.count; singer++) {
                int more = Math.min(NIGHT_BREATH, MOST_BREATH - singers.breath[singer]);
                singers.breath[singer] += more;
                got += more;
            }
            return got;
        }
    }

    // The states from before the latest changes, in a ring: next is where the next one goes.
    private static final class Past {
        final State[] states = new State[MOST_UNDONE];
        int next;
        int count;

        Past() {
            for (int place = 0; place < MOST_UNDONE; place++) {
                states[place] = new State();
            }
        }

        void keep(State state) {
            states[next].copyFrom(state);
            next = (next + 1) % MOST_UNDONE;
            count = Math.min(MOST_UNDONE, count + 1);
        }

        void takeBackInto(State state) {
            next = (next + MOST_UNDONE - 1) % MOST_UNDONE;
            count--;
            state.copyFrom(states[next]);
        }

        void forget() {
            count = 0;
        }
    }

    private static final class Refusal {
        boolean isKept;
        int number;
        int detail;
        boolean hasCause;
        int causeNumber;
        int causeDetail;

        // Answers true, for whoever asks whether something is refused.
        boolean keep(int newNumber, int newDetail) {
            isKept = true;
            number = newNumber;
            detail = newDetail;
            hasCause = false;
            return true;
        }

        // What was kept becomes the cause of a new reason.
        void putBehind(int newNumber, int newDetail) {
            causeNumber = number;
            causeDetail = detail;
            number = newNumber;
            detail = newDetail;
            hasCause = true;
        }
    }

    private enum OrderKind {
        ROOM("room ", 1, 1),
        ECHO("echo ", 2, 1),
        SINGER("singer ", 2, 2),
        ENTER("enter ", 2, 1),
        OUT("out ", 1, 1),
        CARRY("carry ", 2, 1),
        RENT("rent ", 3, 1),
        BACK("back ", 2, 1),
        SING("sing ", 1, 1),
        NIGHT("night", 0, 0);

        final String word;
        final int numbers;
        final int digitsOfLast;

        OrderKind(String word, int numbers, int digitsOfLast) {
            this.word = word;
            this.numbers = numbers;
            this.digitsOfLast = digitsOfLast;
        }
    }

    // The input, and the orders and the fault position of the latest text that was read from it.
    private static final class OrderText {
        final char[] signs = new char[MOST_SIGNS];
        int length;
        int fault = NO_FAULT;
        int orders;
        final OrderKind[] kinds = new OrderKind[MOST_ORDERS];
        final int[][] numbers = new int[MOST_ORDERS][MOST_NUMBERS];
        // Where the reading stands; if something cannot be read, this is its fault position.
        int position;

        OrderText() {
            for (int order = 0; order < MOST_ORDERS; order++) {
                kinds[order] = OrderKind.NIGHT;
            }
        }

        // After the most orders and as many ";" the input is at its end, where an order lacks.
        void readAll() {
            position = 0;
            orders = 0;
            fault = NO_FAULT;
            while (orders < MOST_ORDERS && readsOrder(orders)) {
                orders++;
                if (position >= length) {
                    return;
                }
                if (!readsSign(';')) {
                    break;
                }
            }
            fault = position;
        }

        boolean readsOrder(int order) {
            for (int place = 0; place < KINDS.length; place++) {
                OrderKind kind = KINDS[place];
                if (countSame(kind.word) == kind.word.length()) {
                    position += kind.word.length();
                    kinds[order] = kind;
                    return readsNumbers(kind, numbers[order]);
                }
            }
            position += longestStart();
            return false;
        }

        // How many characters from here on could begin one of the words.
        int longestStart() {
            int longest = 0;
            for (int place = 0; place < KINDS.length; place++) {
                longest = Math.max(longest, countSame(KINDS[place].word));
            }
            return longest;
        }

        int countSame(String word) {
            int same = 0;
            while (same < word.length() && position + same < length
                && signs[position + same] == word.charAt(same)) {
                same++;
            }
            return same;
        }

        boolean readsNumbers(OrderKind kind, int[] row) {
            for (int place = 0; place < kind.numbers && place < row.length; place++) {
                if (place > 0 && !readsSign(' ')) {
                    return false;
                }
                if (!isAtDigit()) {
                    return false;
                }
                row[place] = readDigit();
                if (place == kind.numbers - 1 && kind.digitsOfLast == 2 && isAtDigit()) {
                    row[place] = 10 * row[place] + readDigit();
                }
            }
            return true;
        }

        boolean readsSign(char sign) {
            if (position >= length || signs[position] != sign) {
                return false;
            }
            position++;
            return true;
        }

        boolean isAtDigit() {
            return position < length && signs[position] >= '0' && signs[position] <= '9';
        }

        int readDigit() {
            int digit = signs[position] - '0';
            position++;
            return digit;
        }
    }
}
