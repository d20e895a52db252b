import java.util.ArrayDeque;
import java.util.ArrayList;
import java.util.Comparator;
import java.util.Deque;
import java.util.List;
import java.util.regex.Matcher;
import java.util.regex.Pattern;

/**
 * The document a second time, with the Java library and without care for speed, to compare the
 * program with. A call that throws answers the exception's name.
 */
final class Model {
    private static final String INDEX = "IndexOutOfBoundsException";
    private static final String ARGUMENT = "IllegalArgumentException";
    private static final String STATE = "IllegalStateException";
    private static final String ORDER = "(n|l[0-7]\\+([1-9]|1[0-9]|20)|[rb][0-7]/[0-9]|m[0-7]"
            + "|t([1-9]|[1-5][0-9]|60))";
    private static final Pattern TEXT = Pattern.compile(ORDER + "(;" + ORDER + ")*");

    private static final class Car implements Cloneable {
        final int number;
        int state, ore, brake, speed, place, heat, delivered, bumps, fastest;

        Car(int number) {
            this.number = number;
        }

        Car copy() {
            try {
                return (Car) clone();
            } catch (CloneNotSupportedException e) {
                throw new AssertionError(e);
            }
        }

        int force() {
            return heat > 100 ? brake / 2 : brake;
        }
    }

    private static final class World {
        int[] grade = new int[30];
        int[] limit = new int[30];
        int[] gone = new int[30];
        int[] setting = {2, 6, 1};
        List<Car> cars = new ArrayList<>();
        int tick, loaded, delivered, spilled, refusals;

        World() {
            java.util.Arrays.fill(grade, 3);
        }

        World copy() {
            World w = new World();
            w.grade = grade.clone();
            w.limit = limit.clone();
            w.gone = gone.clone();
            w.setting = setting.clone();
            for (Car c : cars) {
                w.cars.add(c.copy());
            }
            w.tick = tick;
            w.loaded = loaded;
            w.delivered = delivered;
            w.spilled = spilled;
            w.refusals = refusals;
            return w;
        }

        int mask(int state) {
            return cars.stream().filter(c -> c.state == state).mapToInt(c -> 1 << c.number).sum();
        }

        List<Car> inOrder() {
            List<Car> moving = new ArrayList<>(cars);
            moving.removeIf(c -> c.state != 1);
            moving.sort(Comparator.<Car>comparingInt(c -> -c.place).thenComparingInt(c -> c.number));
            return moving;
        }

        void pass() {
            tick++;
            List<Car> moving = inOrder();
            List<Car> resting = new ArrayList<>(cars);
            resting.removeAll(moving);
            moving.forEach(this::move);
            resting.forEach(c -> c.heat = Math.max(0, c.heat - 5));
            for (Car c : cars) {
                if (c.state == 4) {
                    c.place -= Math.min(c.place, setting[1]);
                    c.state = c.place == 0 ? 0 : 4;
                }
            }
        }

        void move(Car c) {
            int start = c.place;
            int speed = c.speed + grade[start / 10] + c.ore / 5 - c.force() - setting[0];
            c.speed = speed < 0 ? 0 : speed > 40 ? 40 : speed;
            c.fastest = c.speed > c.fastest ? c.speed : c.fastest;
            c.heat = c.speed > 0 ? Math.min(200, c.heat + c.brake) : Math.max(0, c.heat - 5);
            Car next = null;
            for (Car d : inOrder()) {
                boolean before = d.place > start || d.place == start && d.number < c.number;
                if (d != c && before && (next == null || d.place <= next.place)) {
                    next = d;
                }
            }
            c.place = start + c.speed;
            if (next != null && next.place - c.place < 10) {
                c.bumps++;
                c.place = next.place - start < 10 ? start : next.place - 10;
                c.speed = next.speed < c.speed ? next.speed : c.speed;
            }
            for (int place = start + 1; place <= c.place && place < 300; place++) {
                if (place % 10 == 0 && limit[place / 10] > 0 && c.speed > limit[place / 10]) {
                    gone[place / 10]++;
                    c.place = place;
                    c.state = 3;
                    c.speed = 0;
                    return;
                }
            }
            if (c.place >= 300) {
                int lost = c.speed > 25 ? c.ore / 2 : 0;
                spilled += lost;
                delivered += c.ore - lost;
                c.delivered += c.ore - lost;
                c.place = 300;
                c.state = 2;
                c.ore = 0;
                c.brake = 0;
                c.speed = 0;
            }
        }

        int free() {
            return Math.max(0, setting[2] - Integer.bitCount(mask(4)));
        }

        int reason(Car c, boolean release) {
            if (release) {
                return c.state != 0 ? 1
                        : cars.stream().anyMatch(d -> d.state == 1 && d.place < 10) ? 2 : 0;
            }
            return c.state != 2 && c.state != 3 ? 1 : free() == 0 ? 2 : 0;
        }
    }

    private World world = new World();
    private final Deque<World> saved = new ArrayDeque<>();
    private final World[] slots = new World[2];
    private final StringBuilder buffer = new StringBuilder();

    private void save() {
        saved.addLast(world.copy());
        if (saved.size() > 6) {
            saved.removeFirst();
        }
    }

    /** The answer of a call, as a text; arguments that it does not have are ignored. */
    String call(String name, int a, int b, int c) {
        switch (name) {
            case "append":
                if (a < 33 || a > 126) {
                    return ARGUMENT;
                }
                if (buffer.length() == 60) {
                    return STATE;
                }
                return "" + buffer.append((char) a).length();
            case "clearBuffer":
                int length = buffer.length();
                buffer.setLength(0);
                return "" + length;
            case "firstError":
                return "" + firstError();
            case "undo":
                if (saved.isEmpty()) {
                    return STATE;
                }
                world = saved.removeLast();
                return "" + saved.size();
            case "keep":
                if (a != 0 && a != 1) {
                    return ARGUMENT;
                }
                slots[a] = world.copy();
                return "" + world.tick;
            case "section":
            case "carOf":
            case "cars":
            case "rolling":
            case "count":
                return query(name, a, b);
            case "refusal":
            case "ifAlone":
            case "leastBrake":
            case "ifRun":
            case "meanSpeed":
                return foresee(name, a, b, c);
            default:
                return undoable(name, a, b);
        }
    }

    private int firstError() {
        for (int end = 1; end <= buffer.length(); end++) {
            Matcher matcher = TEXT.matcher(buffer.substring(0, end));
            if (!matcher.matches() && !matcher.hitEnd()) {
                return end - 1;
            }
        }
        return buffer.length();
    }

    private String undoable(String name, int a, int b) {
        World before = world.copy();
        String answer;
        if (name.equals("goBack")) {
            if (a != 0 && a != 1) {
                return ARGUMENT;
            }
            if (slots[a] == null) {
                return STATE;
            }
            world = slots[a].copy();
            answer = "" + world.tick;
        } else if (name.equals("execute")) {
            if (!TEXT.matcher(buffer).matches()) {
                return ARGUMENT;
            }
            answer = "" + execute();
        } else {
            answer = act(name, a, b);
        }
        if (!answer.endsWith("Exception")) {
            World after = world;
            world = before;
            save();
            world = after;
        }
        return answer;
    }

    private int execute() {
        int executed = 0;
        for (String order : buffer.toString().split(";")) {
            int first = order.length() > 1 ? order.charAt(1) - '0' : 0;
            int refusals = world.refusals;
            String answer = STATE;
            switch (order.charAt(0)) {
                case 'n':
                    answer = act("car", 0, 0);
                    break;
                case 'l':
                    answer = act("load", first, Integer.parseInt(order.substring(3)));
                    break;
                case 'r':
                    answer = act("release", first, Integer.parseInt(order.substring(3)));
                    break;
                case 'b':
                    answer = act("brake", first, Integer.parseInt(order.substring(3)));
                    break;
                case 'm':
                    answer = act("pull", first, 0);
                    break;
                default:
                    answer = act("run", Integer.parseInt(order.substring(1)), 0);
            }
            if (answer.endsWith("Exception") || world.refusals > refusals) {
                break;
            }
            executed++;
        }
        buffer.setLength(0);
        return executed;
    }

    private boolean noCar(int car) {
        return car < 0 || car >= world.cars.size();
    }

    private static boolean outside(int value, int least, int most) {
        return value < least || value > most;
    }

    private String act(String name, int a, int b) {
        int old;
        switch (name) {
            case "grade":
                if (outside(a, 0, 29)) {
                    return INDEX;
                }
                if (outside(b, 0, 9)) {
                    return ARGUMENT;
                }
                old = world.grade[a];
                world.grade[a] = b;
                return "" + old;
            case "spring":
                if (outside(a, 1, 29)) {
                    return INDEX;
                }
                if (outside(b, 0, 40)) {
                    return ARGUMENT;
                }
                old = world.limit[a];
                if (b != 0 && old == 0 && query("count", 2, 0).equals("4")) {
                    return STATE;
                }
                world.limit[a] = b;
                return "" + old;
            case "car":
                if (world.cars.size() == 8) {
                    return STATE;
                }
                world.cars.add(new Car(world.cars.size()));
                return "" + (world.cars.size() - 1);
            case "set":
                if (outside(a, 0, 2)) {
                    return INDEX;
                }
                if (a == 0 && outside(b, 0, 5) || a == 1 && outside(b, 1, 20)
                        || a == 2 && outside(b, 0, 4)) {
                    return ARGUMENT;
                }
                old = world.setting[a];
                world.setting[a] = b;
                return "" + old;
            case "run":
                if (outside(a, 1, 60)) {
                    return ARGUMENT;
                }
                old = world.delivered;
                for (int i = 0; i < a; i++) {
                    world.pass();
                }
                return "" + (world.delivered - old);
            default:
                return noCar(a) ? INDEX : actOn(name, world.cars.get(a), b);
        }
    }

    private String actOn(String name, Car car, int b) {
        int reason;
        switch (name) {
            case "load":
                if (outside(b, 1, 20)) {
                    return ARGUMENT;
                }
                if (car.state != 0 || car.ore + b > 20) {
                    return STATE;
                }
                world.loaded += b;
                car.ore += b;
                return "" + car.ore;
            case "release":
                if (outside(b, 0, 9)) {
                    return ARGUMENT;
                }
                reason = world.reason(car, true);
                if (reason == 0) {
                    car.state = 1;
                    car.brake = b;
                } else {
                    world.refusals++;
                }
                return "" + reason;
            case "brake":
                if (outside(b, 0, 9)) {
                    return ARGUMENT;
                }
                if (car.state != 1) {
                    return STATE;
                }
                int old = car.brake;
                car.brake = b;
                return "" + old;
            default:
                reason = world.reason(car, false);
                if (reason == 0) {
                    car.state = 4;
                    car.brake = 0;
                } else {
                    world.refusals++;
                }
                return "" + reason;
        }
    }

    private String query(String name, int a, int b) {
        switch (name) {
            case "section":
                if (outside(a, 0, 29)) {
                    return INDEX;
                }
                if (outside(b, 0, 4)) {
                    return ARGUMENT;
                }
                return "" + new int[] {world.grade[a], world.limit[a], masked(a, 1), masked(a, 3),
                    world.gone[a]}[b];
            case "carOf":
                if (noCar(a)) {
                    return INDEX;
                }
                if (outside(b, 0, 9)) {
                    return ARGUMENT;
                }
                Car c = world.cars.get(a);
                return "" + new int[] {c.state, c.ore, c.brake, c.speed, c.place, c.heat,
                    c.force(), c.delivered, c.bumps, c.fastest}[b];
            case "cars":
                return outside(a, 0, 4) ? ARGUMENT : "" + world.mask(a);
            case "rolling":
                List<Car> order = world.inOrder();
                return a < 0 ? ARGUMENT : "" + (a < order.size() ? order.get(a).number : -1);
            default:
                if (outside(a, 0, 13)) {
                    return ARGUMENT;
                }
                int switches = 0;
                for (int limit : world.limit) {
                    switches += limit > 0 ? 1 : 0;
                }
                return "" + new int[] {world.tick, world.cars.size(), switches, world.loaded,
                    world.delivered, world.spilled,
                    world.cars.stream().mapToInt(d -> d.ore).sum(), world.free(),
                    world.refusals, saved.size(), buffer.length(), world.setting[0],
                    world.setting[1], world.setting[2]}[a];
        }
    }

    private int masked(int section, int state) {
        return world.cars.stream()
                .filter(c -> c.state == state && c.place >= section * 10
                        && c.place < section * 10 + 10)
                .mapToInt(c -> 1 << c.number).sum();
    }

    private String foresee(String name, int a, int b, int c) {
        switch (name) {
            case "refusal":
                return noCar(a) ? INDEX : "" + world.reason(world.cars.get(a), b != 0);
            case "ifAlone":
                if (outside(a, 0, 20) || outside(b, 0, 9) || outside(c, 0, 4)) {
                    return ARGUMENT;
                }
                return "" + alone(a, b)[c];
            case "leastBrake":
                if (outside(a, 0, 20)) {
                    return ARGUMENT;
                }
                for (int brake = 0; brake < 10; brake++) {
                    int[] end = alone(a, brake);
                    if (end[0] == 2 && end[2] == a) {
                        return "" + brake;
                    }
                }
                return "-1";
            case "ifRun":
                if (outside(a, 1, 200) || outside(b, 0, 4)) {
                    return ARGUMENT;
                }
                World w = world.copy();
                for (int i = 0; i < a; i++) {
                    w.pass();
                }
                int bumps = 0;
                for (int i = 0; i < w.cars.size(); i++) {
                    bumps += w.cars.get(i).bumps - world.cars.get(i).bumps;
                }
                return "" + new int[] {w.delivered - world.delivered, w.spilled - world.spilled,
                    w.mask(3), bumps, w.mask(1)}[b];
            default:
                List<Car> moving = world.inOrder();
                int sum = moving.stream().mapToInt(d -> d.speed).sum();
                return "" + (moving.isEmpty() ? 0.0f : (float) sum / (float) moving.size());
        }
    }

    private int[] alone(int ore, int brake) {
        World w = world.copy();
        w.cars.clear();
        Car car = new Car(0);
        car.state = 1;
        car.ore = ore;
        car.brake = brake;
        w.cars.add(car);
        int start = w.tick;
        while (car.state == 1 && w.tick < start + 200) {
            w.pass();
        }
        return new int[] {car.state, w.tick - start, car.delivered, car.place, car.fastest};
    }
}
