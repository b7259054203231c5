import java.lang.reflect.InvocationTargetException;
import java.lang.reflect.Method;
import java.lang.reflect.Modifier;
import java.util.ArrayDeque;
import java.util.ArrayList;
import java.util.Arrays;
import java.util.Comparator;
import java.util.HashMap;
import java.util.List;
import java.util.Map;
import java.util.NoSuchElementException;
import java.util.TreeMap;
import java.util.regex.Matcher;
import java.util.regex.Pattern;

// Long runs of calls, compared with a second program that is written another way: with objects and
// lists, sorts and patterns. Each run is the same each time.
public final class ModelTests {
    private static final int RUNS = 2000;
    private static final int CALLS = 512;

    private static long seed = 1;

    public static void main(String[] args) throws Exception {
        List<Method> methods = new ArrayList<>();
        for (Method method : EchoCouncil.class.getDeclaredMethods()) {
            if (Modifier.isPublic(method.getModifiers())) {
                methods.add(method);
            }
        }
        methods.sort(Comparator.comparing(Method::getName));
        Map<String, Integer> outcomes = new TreeMap<>();
        for (int run = 0; run < RUNS; run++) {
            seed = run * 7919L + 17;
            compare(run, methods, outcomes);
        }
        // Every method must have answered, or the runs would prove less than they seem to.
        for (Method method : methods) {
            Due.same(method.getName() + " has answered", true, outcomes.getOrDefault(method.getName(), 0) > 100);
        }
        for (int reason = 1; reason <= 11; reason++) {
            Due.same("reason " + reason + " came", true, outcomes.getOrDefault("reason " + reason, 0) > 20);
            Due.same("cause " + reason + " came", true, outcomes.getOrDefault("cause " + reason, 0) > 5);
        }
        Due.end();
    }

    private static int random(int bound) {
        seed = seed * 6364136223846793005L + 1442695040888963407L;
        return (int) ((seed >>> 33) % bound);
    }

    private static void compare(int run, List<Method> methods, Map<String, Integer> outcomes) throws Exception {
        EchoCouncil real = new EchoCouncil();
        Model model = new Model();
        begin(real, model);
        int calls = busy(run, real, model, outcomes);
        while (calls < CALLS) {
            Method method = methods.get(random(methods.size()));
            String name = method.getName();
            if (name.equals("append") || name.equals("run")) {
                String text = random(4) == 0 ? randomText(true) : randomText(false);
                for (char character : text.toCharArray()) {
                    both(run, "append", new Object[] {character}, real, model, outcomes);
                }
                calls += text.length() + 1;
                both(run, "run", new Object[0], real, model, outcomes);
                both(run, "faultPosition", new Object[0], real, model, outcomes);
                reasons(run, real, model, outcomes);
                continue;
            }
            if (name.equals("restore") && random(4) != 0) {
                continue;
            }
            both(run, name, arguments(method), real, model, outcomes);
            reasons(run, real, model, outcomes);
            calls++;
        }
    }

    // Most runs start from a hall that is full enough for lettings and verses.
    private static void begin(EchoCouncil real, Model model) {
        int rooms = random(7);
        for (int room = 0; room < rooms; room++) {
            int size = 1 + random(9);
            Due.same("room", model.room(size), real.room(size));
        }
        int singers = random(7);
        for (int singer = 0; singer < singers; singer++) {
            int shyness = random(10);
            int breath = random(100);
            Due.same("singer", model.singer(shyness, breath), real.singer(shyness, breath));
        }
        int echoes = rooms == 0 ? 0 : random(9);
        for (int echo = 0; echo < echoes; echo++) {
            int in = random(rooms);
            int strength = 1 + random(9);
            Due.same("echo", model.echo(in, strength), real.echo(in, strength));
        }
    }

    // Lettings are rare by chance alone, so singers and echoes are brought together first.
    private static int busy(int run, EchoCouncil real, Model model, Map<String, Integer> outcomes) throws Exception {
        String[] names = {"enter", "rent", "rent", "rent", "sing", "sing", "back", "carry"};
        int calls = random(200);
        for (int call = 0; call < calls; call++) {
            String name = names[random(names.length)];
            Object[] numbers = {random(6), random(6), 1 + random(9)};
            int taken = name.equals("rent") ? 3 : name.equals("sing") ? 1 : 2;
            both(run, name, Arrays.copyOf(numbers, taken), real, model, outcomes);
            reasons(run, real, model, outcomes);
        }
        return calls;
    }

    private static void reasons(int run, EchoCouncil real, Model model, Map<String, Integer> outcomes) throws Exception {
        for (int depth = 0; depth <= 1; depth++) {
            Object number = both(run, "reason", new Object[] {depth, false}, real, model, outcomes);
            both(run, "reason", new Object[] {depth, true}, real, model, outcomes);
            outcomes.merge((depth == 0 ? "reason " : "cause ") + number, 1, Integer::sum);
        }
    }

    private static Object[] arguments(Method method) {
        Class<?>[] types = method.getParameterTypes();
        Object[] arguments = new Object[types.length];
        for (int place = 0; place < types.length; place++) {
            arguments[place] = types[place] == boolean.class ? (Object) (random(2) == 0) : (Object) number(method.getName(), place);
        }
        return arguments;
    }

    private static int number(String name, int place) {
        int way = random(20);
        if (way == 0) {
            int[] edges = {-1, Integer.MIN_VALUE, Integer.MAX_VALUE, 100, 99, 60};
            return edges[random(edges.length)];
        }
        if (name.equals("singer") && place == 1) {
            return random(102) - 1;
        }
        if (name.equals("account") || name.equals("character")) {
            return random(16);
        }
        return way < 4 ? random(12) - 1 : random(5);
    }

    private static String randomText(boolean hasFault) {
        String[] forms = {"room D", "echo D D", "singer D D", "singer D DD", "enter D D", "out D", "carry D D", "rent D D D", "back D D", "sing D", "night"};
        StringBuilder text = new StringBuilder();
        int orders = 1 + random(4);
        for (int order = 0; order < orders; order++) {
            text.append(order == 0 ? "" : ";").append(forms[random(forms.length)]);
        }
        for (int index = 0; index < text.length(); index++) {
            if (text.charAt(index) == 'D') {
                text.setCharAt(index, (char) ('0' + (random(6) == 0 ? random(10) : random(4))));
            }
        }
        if (hasFault) {
            text.setCharAt(random(text.length()), (char) (32 + random(95)));
        }
        return text.toString();
    }

    private static Object both(int run, String name, Object[] arguments, EchoCouncil real, Model model, Map<String, Integer> outcomes) throws Exception {
        Object got = answer(real, name, arguments);
        Object due = answer(model, name, arguments);
        Due.same("run " + run + ", " + name + Arrays.toString(arguments), due, got);
        if (!(got instanceof Class<?>)) {
            outcomes.merge(name, 1, Integer::sum);
        }
        return got;
    }

    private static final Map<String, Method> METHODS = new HashMap<>();

    private static Object answer(Object council, String name, Object[] arguments) throws Exception {
        String key = council.getClass().getName() + name;
        Method method = METHODS.get(key);
        if (method == null) {
            for (Method each : council.getClass().getDeclaredMethods()) {
                if (each.getName().equals(name) && !Modifier.isPrivate(each.getModifiers())) {
                    method = each;
                }
            }
            METHODS.put(key, method);
        }
        try {
            return method.invoke(council, arguments);
        } catch (InvocationTargetException thrown) {
            return thrown.getCause().getClass();
        }
    }

    static final class Hall {
        final int size;
        int damp;
        int verses;

        Hall(int size) {
            this.size = size;
        }
    }

    static final class Echo {
        Hall hall;
        final int strength;
        Person to;
        int verses;
        int tones;

        Echo(Hall hall, int strength) {
            this.hall = hall;
            this.strength = strength;
        }
    }

    static final class Person {
        final int shyness;
        int breath;
        Hall hall;
        int verses;
        int tones;

        Person(int shyness, int breath) {
            this.shyness = shyness;
            this.breath = breath;
        }
    }

    static final class World {
        final List<Hall> halls = new ArrayList<>();
        final List<Echo> echoes = new ArrayList<>();
        final List<Person> people = new ArrayList<>();
        int nights;
        int verses;
        int tones;
        int deposits;
        int given;
        int kept;
        int held;

        World copy() {
            World copy = new World();
            for (Hall hall : halls) {
                Hall other = new Hall(hall.size);
                other.damp = hall.damp;
                other.verses = hall.verses;
                copy.halls.add(other);
            }
            for (Person person : people) {
                Person other = new Person(person.shyness, person.breath);
                other.hall = person.hall == null ? null : copy.halls.get(halls.indexOf(person.hall));
                other.verses = person.verses;
                other.tones = person.tones;
                copy.people.add(other);
            }
            for (Echo echo : echoes) {
                Echo other = new Echo(copy.halls.get(halls.indexOf(echo.hall)), echo.strength);
                other.to = echo.to == null ? null : copy.people.get(people.indexOf(echo.to));
                other.verses = echo.verses;
                other.tones = echo.tones;
                copy.echoes.add(other);
            }
            copy.nights = nights;
            copy.verses = verses;
            copy.tones = tones;
            copy.deposits = deposits;
            copy.given = given;
            copy.kept = kept;
            copy.held = held;
            return copy;
        }
    }

    public static final class Model {
        private static final Pattern ORDERS = Pattern.compile(
            "(room \\d|echo \\d \\d|singer \\d \\d\\d?|enter \\d \\d|out \\d|carry \\d \\d|rent \\d \\d \\d|back \\d \\d|sing \\d|night)(;|$)");

        private World world = new World();
        private World saved;
        private final ArrayDeque<World> past = new ArrayDeque<>();
        private String input = "";
        private int fault = -1;
        private int[] reason;
        private int[] cause;
        private String line = "";

        private UnsupportedOperationException no(int number, int detail) {
            reason = new int[] {number, detail};
            cause = null;
            return new UnsupportedOperationException();
        }

        private Hall hallFor(int room) {
            if (room < 0 || room >= world.halls.size()) {
                throw no(2, room);
            }
            return world.halls.get(room);
        }

        private Echo echoFor(int echo) {
            if (echo < 0 || echo >= world.echoes.size()) {
                throw no(2, echo);
            }
            return world.echoes.get(echo);
        }

        private Person personFor(int singer) {
            if (singer < 0 || singer >= world.people.size()) {
                throw no(2, singer);
            }
            return world.people.get(singer);
        }

        private void range(int number, int least, int greatest) {
            if (number < least || number > greatest) {
                throw no(3, number);
            }
        }

        private long inside(Hall hall) {
            return world.people.stream().filter(person -> person.hall == hall).count();
        }

        private int changed(World before, int answer) {
            past.addLast(before);
            if (past.size() > 8) {
                past.removeFirst();
            }
            return answer;
        }

        private int order(String name, int a, int b, int c) {
            switch (name) {
                case "room": {
                    range(a, 1, 9);
                    if (world.halls.size() == 6) {
                        throw no(1, 6);
                    }
                    world.halls.add(new Hall(a));
                    return world.halls.size() - 1;
                }
                case "echo": {
                    Hall hall = hallFor(a);
                    range(b, 1, 9);
                    if (world.echoes.size() == 8) {
                        throw no(1, 8);
                    }
                    world.echoes.add(new Echo(hall, b));
                    return world.echoes.size() - 1;
                }
                case "singer": {
                    range(a, 0, 9);
                    range(b, 0, 99);
                    if (world.people.size() == 6) {
                        throw no(1, 6);
                    }
                    world.people.add(new Person(a, b));
                    return world.people.size() - 1;
                }
                case "enter": {
                    Person person = personFor(a);
                    Hall hall = hallFor(b);
                    if (person.hall == hall) {
                        throw no(4, b);
                    }
                    if (inside(hall) == hall.size) {
                        throw no(5, hall.size);
                    }
                    if (3 * inside(hall) > 9 - person.shyness) {
                        throw no(6, (int) inside(hall));
                    }
                    person.hall = hall;
                    return (int) inside(hall);
                }
                case "out": {
                    Person person = personFor(a);
                    if (person.hall == null) {
                        throw no(10, a);
                    }
                    int left = world.halls.indexOf(person.hall);
                    person.hall = null;
                    return left;
                }
                case "carry": {
                    Echo echo = echoFor(a);
                    Hall hall = hallFor(b);
                    if (echo.hall == hall) {
                        throw no(4, b);
                    }
                    if (echo.to != null) {
                        throw no(7, world.people.indexOf(echo.to));
                    }
                    int left = world.halls.indexOf(echo.hall);
                    echo.hall = hall;
                    return left;
                }
                case "rent":
                    return rented(personFor(a), echoFor(b), c);
                case "back": {
                    Person person = personFor(a);
                    Echo echo = echoFor(b);
                    if (echo.to != person) {
                        throw no(11, world.people.indexOf(echo.to));
                    }
                    return ended(echo);
                }
                case "sing":
                    return sung(personFor(a), a);
                default:
                    return passed();
            }
        }

        private int rented(Person person, Echo echo, int verses) {
            range(verses, 1, 9);
            if (echo.to != null) {
                throw no(7, world.people.indexOf(echo.to));
            }
            if (person.hall != echo.hall) {
                throw no(8, world.halls.indexOf(echo.hall));
            }
            if (person.breath < echo.strength) {
                throw no(9, person.breath);
            }
            person.breath -= echo.strength;
            world.deposits += echo.strength;
            world.held += echo.strength;
            echo.to = person;
            echo.verses = verses;
            return echo.strength;
        }

        private int ended(Echo echo) {
            int back = returned(echo);
            echo.to.breath = Math.min(99, echo.to.breath + back);
            world.held -= echo.strength;
            world.given += back;
            world.kept += echo.strength - back;
            echo.to = null;
            echo.verses = 0;
            return back;
        }

        private static int returned(Echo echo) {
            return echo.strength > echo.hall.damp ? echo.strength - echo.hall.damp : 0;
        }

        private List<Echo> heard(Person person, Hall hall) {
            List<Echo> heard = new ArrayList<>();
            for (Echo echo : world.echoes) {
                if (echo.hall == hall && echo.to == person) {
                    heard.add(echo);
                }
            }
            return heard;
        }

        private int sung(Person person, int number) {
            if (person.hall == null) {
                throw no(10, number);
            }
            if (person.breath == 0) {
                throw no(9, 0);
            }
            person.breath--;
            List<Echo> heard = heard(person, person.hall);
            int sum = 0;
            for (Echo echo : heard) {
                echo.tones += returned(echo);
                sum += returned(echo);
            }
            for (Echo echo : heard) {
                echo.verses--;
            }
            for (Echo echo : heard) {
                if (echo.verses == 0) {
                    ended(echo);
                }
            }
            person.hall.damp = Math.min(9, person.hall.damp + 1);
            person.hall.verses++;
            person.verses++;
            person.tones += sum;
            world.verses++;
            world.tones += sum;
            return sum;
        }

        private int passed() {
            int got = 0;
            for (Person person : world.people) {
                int breath = Math.min(99, person.breath + 3);
                got += breath - person.breath;
                person.breath = breath;
            }
            for (Hall hall : world.halls) {
                hall.damp = hall.damp < 2 ? 0 : hall.damp - 2;
            }
            world.nights++;
            return got;
        }

        private int one(String name, int a, int b, int c) {
            World before = world.copy();
            return changed(before, order(name, a, b, c));
        }

        public int room(int a) {
            return one("room", a, 0, 0);
        }

        public int echo(int a, int b) {
            return one("echo", a, b, 0);
        }

        public int singer(int a, int b) {
            return one("singer", a, b, 0);
        }

        public int enter(int a, int b) {
            return one("enter", a, b, 0);
        }

        public int out(int a) {
            return one("out", a, 0, 0);
        }

        public int carry(int a, int b) {
            return one("carry", a, b, 0);
        }

        public int rent(int a, int b, int c) {
            return one("rent", a, b, c);
        }

        public int back(int a, int b) {
            return one("back", a, b, 0);
        }

        public int sing(int a) {
            return one("sing", a, 0, 0);
        }

        public int night() {
            return one("night", 0, 0, 0);
        }

        private <T> T at(List<T> list, int index) {
            if (index < 0 || index >= list.size()) {
                throw new IndexOutOfBoundsException();
            }
            return list.get(index);
        }

        private int pick(int what, int... numbers) {
            if (what < 0 || what >= numbers.length) {
                throw new IllegalArgumentException();
            }
            return numbers[what];
        }

        public int roomOf(int room, int what) {
            Hall hall = at(world.halls, room);
            int echoes = 0;
            int let = 0;
            for (Echo echo : world.echoes) {
                echoes += echo.hall == hall ? 1 : 0;
                let += echo.hall == hall && echo.to != null ? 1 : 0;
            }
            return pick(what, hall.size, hall.damp, (int) inside(hall), echoes, let, hall.verses);
        }

        public int echoOf(int echo, int what) {
            Echo it = at(world.echoes, echo);
            return pick(what, world.halls.indexOf(it.hall), it.strength, world.people.indexOf(it.to), it.verses, it.tones);
        }

        public int singerOf(int singer, int what) {
            Person it = at(world.people, singer);
            List<Echo> rented = world.echoes.stream().filter(echo -> echo.to == it).toList();
            int held = rented.stream().mapToInt(echo -> echo.strength).sum();
            return pick(what, it.shyness, it.breath, world.halls.indexOf(it.hall), rented.size(), it.verses, it.tones, held);
        }

        private Person insider(int singer) {
            Person person = at(world.people, singer);
            if (person.hall == null) {
                throw new NoSuchElementException();
            }
            return person;
        }

        public int tones(int singer) {
            Person person = insider(singer);
            return heard(person, person.hall).stream().mapToInt(echo -> returned(echo)).sum();
        }

        public int tonesAgain(int singer) {
            return tones(singer);
        }

        // Sung on a copy of the world, with breath enough, until a verse brings no tones.
        public int verses(int singer) {
            insider(singer);
            World before = world;
            world = before.copy();
            Person person = world.people.get(singer);
            int sung = -1;
            int tones;
            do {
                sung++;
                person.breath = 50;
                tones = sung(person, singer);
            } while (tones > 0);
            world = before;
            return sung;
        }

        public int versesAgain(int singer) {
            return verses(singer);
        }

        public int would(int singer, int room) {
            Person person = at(world.people, singer);
            Hall hall = at(world.halls, room);
            return heard(person, hall).stream().mapToInt(echo -> returned(echo)).sum();
        }

        public int bestRoom(int singer) {
            at(world.people, singer);
            List<Integer> rooms = numbers(world.halls.size());
            rooms.sort(Comparator.comparing(room -> -would(singer, room)));
            return place(rooms, 0);
        }

        private static List<Integer> numbers(int count) {
            List<Integer> numbers = new ArrayList<>();
            for (int number = 0; number < count; number++) {
                numbers.add(number);
            }
            return numbers;
        }

        private static int place(List<Integer> order, int place) {
            if (place < 0 || place >= order.size()) {
                throw new NoSuchElementException();
            }
            return order.get(place);
        }

        // Whether it is refused, tried on a copy, with the reason put back.
        private boolean could(String name, int a, int b, int c) {
            World before = world;
            int[] reasonBefore = reason;
            int[] causeBefore = cause;
            world = before.copy();
            try {
                order(name, a, b, c);
                return true;
            } catch (UnsupportedOperationException refused) {
                return false;
            } finally {
                world = before;
                reason = reasonBefore;
                cause = causeBefore;
            }
        }

        public boolean canEnter(int singer, int room) {
            at(world.people, singer);
            at(world.halls, room);
            return could("enter", singer, room, 0);
        }

        public boolean canRent(int singer, int echo) {
            at(world.people, singer);
            at(world.echoes, echo);
            return could("rent", singer, echo, 1);
        }

        public int backFor(int echo) {
            Echo it = at(world.echoes, echo);
            if (it.to == null) {
                throw new NoSuchElementException();
            }
            return returned(it);
        }

        public int others(int room) {
            Hall hall = at(world.halls, room);
            int set = 0;
            for (Person person : world.people) {
                set += person.hall == hall ? (int) Math.pow(2, world.people.indexOf(person)) : 0;
            }
            return set;
        }

        public int free(int room) {
            Hall hall = at(world.halls, room);
            int set = 0;
            for (Echo echo : world.echoes) {
                set += echo.hall == hall && echo.to == null ? (int) Math.pow(2, world.echoes.indexOf(echo)) : 0;
            }
            return set;
        }

        public int dryIn(int room) {
            int nights = 0;
            for (int damp = at(world.halls, room).damp; damp > 0; damp -= 2) {
                nights++;
            }
            return nights;
        }

        public int dampest(int place) {
            List<Integer> rooms = numbers(world.halls.size());
            rooms.sort(Comparator.comparing((Integer room) -> -world.halls.get(room).damp)
                .thenComparing(room -> -inside(world.halls.get(room))));
            return place(rooms, place);
        }

        public int ranked(int kind, int place) {
            pick(kind, 0, 0, 0, 0);
            List<Integer> singers = numbers(world.people.size());
            singers.sort(Comparator.comparing(singer -> {
                Person person = world.people.get(singer);
                return -pick(kind, person.breath, person.tones, person.verses, person.shyness);
            }));
            return place(singers, place);
        }

        public int strongest(int place) {
            List<Integer> echoes = numbers(world.echoes.size());
            echoes.sort(Comparator.comparing((Integer echo) -> -world.echoes.get(echo).strength)
                .thenComparing(echo -> world.echoes.get(echo).to != null));
            return place(echoes, place);
        }

        public boolean isTold() {
            return world.deposits == world.given + world.kept + world.held;
        }

        public int append(char character) {
            if (character < ' ' || character > '~') {
                throw new IllegalArgumentException();
            }
            if (input.length() == 60) {
                throw new IllegalStateException();
            }
            input += character;
            return input.length();
        }

        private static int faultOf(String text) {
            String order = "(room \\d|echo \\d \\d|singer \\d \\d\\d?|enter \\d \\d|out \\d|carry \\d \\d|rent \\d \\d \\d|back \\d \\d|sing \\d|night)";
            Pattern form = Pattern.compile(order + "(;" + order + ")*");
            if (form.matcher(text).matches()) {
                return -1;
            }
            for (int length = 1; length <= text.length(); length++) {
                Matcher matcher = form.matcher(text.substring(0, length));
                if (!matcher.matches() && !matcher.hitEnd()) {
                    return length - 1;
                }
            }
            return text.length();
        }

        public int run() {
            String text = input;
            input = "";
            fault = faultOf(text);
            if (fault >= 0) {
                throw new IllegalArgumentException();
            }
            World before = world.copy();
            String[] orders = text.split(";");
            for (int index = 0; index < orders.length; index++) {
                String[] words = orders[index].split(" ");
                int[] numbers = new int[3];
                for (int place = 1; place < words.length; place++) {
                    numbers[place - 1] = Integer.parseInt(words[place]);
                }
                try {
                    order(words[0], numbers[0], numbers[1], numbers[2]);
                } catch (UnsupportedOperationException refused) {
                    world = before;
                    cause = reason;
                    reason = new int[] {12, index};
                    throw refused;
                }
            }
            return changed(before, orders.length);
        }

        public int faultPosition() {
            return fault;
        }

        public int reason(int depth, boolean isDetail) {
            int[] asked = depth == 0 ? reason : cause;
            if (depth != 0 && depth != 1) {
                throw new IllegalArgumentException();
            }
            if (asked == null) {
                throw new NoSuchElementException();
            }
            return asked[isDetail ? 1 : 0];
        }

        public int tellRoom(int room) {
            Hall hall = at(world.halls, room);
            line = room + "[" + hall.size + "~" + hall.damp + "]";
            for (Echo echo : world.echoes) {
                line += echo.hall == hall ? world.echoes.indexOf(echo) + (echo.to == null ? "" : "*") : "";
            }
            for (Person person : world.people) {
                line += person.hall == hall ? "s" + world.people.indexOf(person) : "";
            }
            return line.length();
        }

        public int tellEcho(int echo) {
            Echo it = at(world.echoes, echo);
            line = echo + "^" + it.strength + "@" + world.halls.indexOf(it.hall);
            line += it.to == null ? "" : "=" + world.people.indexOf(it.to) + "/" + it.verses;
            return line.length();
        }

        public int tellSinger(int singer) {
            Person it = at(world.people, singer);
            line = singer + "!" + it.shyness + "%" + it.breath;
            line += it.hall == null ? "" : "@" + world.halls.indexOf(it.hall);
            return line.length();
        }

        public char character(int index) {
            if (index < 0 || index >= line.length()) {
                throw new IndexOutOfBoundsException();
            }
            return line.charAt(index);
        }

        private int let() {
            return (int) world.echoes.stream().filter(echo -> echo.to != null).count();
        }

        private int damp() {
            return world.halls.stream().mapToInt(hall -> hall.damp).sum();
        }

        public int account(int what) {
            return pick(what, world.halls.size(), world.echoes.size(), world.people.size(), let(), world.nights, damp(),
                world.verses, world.tones, world.deposits, world.given, world.kept, world.held, input.length(), past.size());
        }

        public double meanDamp() {
            if (world.halls.isEmpty()) {
                throw new ArithmeticException();
            }
            return ((double) damp()) / world.halls.size();
        }

        public float letShare() {
            if (world.echoes.isEmpty()) {
                throw new ArithmeticException();
            }
            return ((float) let()) / world.echoes.size();
        }

        public int undo() {
            if (past.isEmpty()) {
                throw new IllegalStateException();
            }
            world = past.removeLast();
            return past.size();
        }

        public int save() {
            saved = world.copy();
            return world.echoes.size();
        }

        public int restore() {
            if (saved == null) {
                throw new IllegalStateException();
            }
            world = saved.copy();
            past.clear();
            return world.echoes.size();
        }
    }
}
