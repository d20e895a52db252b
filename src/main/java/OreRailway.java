/**
 * A gravity railway on which loaded cars roll from a mine down to a mill.
 *
 * <p>All rows are made in the constructor and used again, so that no call makes an object.
 */
public final class OreRailway {
    /** There is no such number. */
    public static final int NONE = -1;

    private static final int SECTIONS = 30;
    private static final int SECTION_LENGTH = 10;
    private static final int MILL_PLACE = 300;
    private static final int FIRST_GRADE = 3;
    private static final int MAX_GRADE = 9;
    private static final int MAX_LIMIT = 40;
    private static final int MAX_SWITCHES = 4;

    private static final int MAX_CARS = 8;
    private static final int MAX_ORE = 20;
    private static final int MAX_BRAKE = 9;
    private static final int MAX_SPEED = 40;
    private static final int MAX_HEAT = 200;
    private static final int HOT = 100;
    private static final int COOLING = 5;
    private static final int ORE_PER_SPEED = 5;
    private static final int SPILLING_SPEED = 25;
    private static final int LEAST_DISTANCE = 10;

    private static final int AT_MINE = 0;
    private static final int ROLLING = 1;
    private static final int AT_MILL = 2;
    private static final int RAN_AWAY = 3;
    private static final int PULLED = 4;

    private static final int DRAG = 0;
    private static final int PACE = 1;
    private static final int MULES = 2;
    private static final int SETTINGS = 3;

    private static final int MAX_RUN = 60;
    private static final int MAX_FORESIGHT = 200;
    private static final int MAX_SAVED = 6;
    private static final int SLOTS = 2;
    private static final int MAX_TEXT = 60;
    private static final int FIRST_CODE = 33;
    private static final int LAST_CODE = 126;

    private final State now = new State();
    /** What would be is tried out here, so that the real state is not touched. */
    private final State trial = new State();
    private final History history = new History();
    private final State[] snapshots = new State[SLOTS];
    private final boolean[] kept = new boolean[SLOTS];
    private final OrderText orders = new OrderText();

    /** Creates a track without switches and cars. */
    public OreRailway() {
        for (int slot = 0; slot < SLOTS; slot++) {
            snapshots[slot] = new State();
        }
    }

    // ---- track and cars

    /** Changes the grade of a section; returns the previous grade. */
    public int grade(int section, int grade)
            throws IndexOutOfBoundsException, IllegalArgumentException {
        requireIndex(section >= 0 && section < SECTIONS);
        requireArgument(isWithin(grade, 0, MAX_GRADE));
        history.push(now);
        int previous = now.grades[section];
        now.grades[section] = grade;
        return previous;
    }

    /** Builds a spring switch, changes its limit, or takes it away; returns the previous limit. */
    public int spring(int section, int limit)
            throws IndexOutOfBoundsException, IllegalArgumentException, IllegalStateException {
        requireIndex(section >= 1 && section < SECTIONS);
        requireArgument(isWithin(limit, 0, MAX_LIMIT));
        int previous = now.limits[section];
        requireState(limit == 0 || previous != 0 || now.switchCount() < MAX_SWITCHES);
        history.push(now);
        now.limits[section] = limit;
        return previous;
    }

    /** Adds a car; returns its number. */
    public int car() throws IllegalStateException {
        requireState(now.carCount < MAX_CARS);
        history.push(now);
        return now.addCar();
    }

    /** Loads ore onto a car at the mine; returns the ore of the car then. */
    public int load(int car, int ore)
            throws IndexOutOfBoundsException, IllegalArgumentException, IllegalStateException {
        requireIndex(now.hasCar(car));
        requireArgument(isWithin(ore, 1, MAX_ORE));
        requireState(now.canLoad(car, ore));
        history.push(now);
        return now.addOre(car, ore);
    }

    /** Releases a car with a brake; returns 0, or the reason why this is refused. */
    public int release(int car, int brake)
            throws IndexOutOfBoundsException, IllegalArgumentException {
        requireIndex(now.hasCar(car));
        requireArgument(isWithin(brake, 0, MAX_BRAKE));
        history.push(now);
        return now.letRoll(car, brake);
    }

    /** Changes the brake of a car that is rolling; returns the previous brake. */
    public int brake(int car, int brake)
            throws IndexOutOfBoundsException, IllegalArgumentException, IllegalStateException {
        requireIndex(now.hasCar(car));
        requireArgument(isWithin(brake, 0, MAX_BRAKE));
        requireState(now.isRolling(car));
        history.push(now);
        return now.changeBrake(car, brake);
    }

    /** Lets a mule pull a car up to the mine; returns 0, or the reason why this is refused. */
    public int pull(int car) throws IndexOutOfBoundsException {
        requireIndex(now.hasCar(car));
        history.push(now);
        return now.harnessMule(car);
    }

    /** Changes a setting; returns the previous value. */
    public int set(int setting, int value)
            throws IndexOutOfBoundsException, IllegalArgumentException {
        requireIndex(setting >= 0 && setting < SETTINGS);
        requireArgument(isWithin(value, leastOfSetting(setting), greatestOfSetting(setting)));
        history.push(now);
        int previous = now.settings[setting];
        now.settings[setting] = value;
        return previous;
    }

    /** Lets ticks pass; returns the ore that is delivered in them. */
    public int run(int ticks) throws IllegalArgumentException {
        requireArgument(isWithin(ticks, 1, MAX_RUN));
        history.push(now);
        int before = now.delivered;
        now.passTicks(ticks);
        return now.delivered - before;
    }

    // ---- order text

    /** Appends a character to the buffer; returns the new length of the buffer. */
    public int append(int code) throws IllegalArgumentException, IllegalStateException {
        requireArgument(isWithin(code, FIRST_CODE, LAST_CODE));
        requireState(orders.addSign((char) code));
        return orders.length;
    }

    /** Clears the buffer; returns the length that it had. */
    public int clearBuffer() {
        int before = orders.length;
        orders.length = 0;
        return before;
    }

    /** Returns the index of the first error of the buffer; its length if there is no error. */
    public int firstError() {
        return orders.errorIndex();
    }

    /** Executes the orders in the buffer and clears it; returns how many orders are executed. */
    public int execute() throws IllegalArgumentException {
        requireArgument(orders.isComplete());
        history.push(now);
        int executed = 0;
        int start = 0;
        for (int end = 1; end <= orders.length; end++) {
            if (orders.isOrderEnd(end)) {
                if (!perform(start, end)) {
                    break;
                }
                executed++;
                start = end + 1;
            }
        }
        orders.length = 0;
        return executed;
    }

    // ---- undo and snapshots

    /** Restores the state that was saved last; returns the number of saved states left. */
    public int undo() throws IllegalStateException {
        requireState(history.size > 0);
        history.popInto(now);
        return history.size;
    }

    /** Takes a snapshot of the state; returns the number of the tick. */
    public int keep(int slot) throws IllegalArgumentException {
        requireArgument(slot >= 0 && slot < SLOTS);
        snapshots[slot].copyFrom(now);
        kept[slot] = true;
        return now.tick;
    }

    /** Restores a snapshot; returns the number of the tick after the call. */
    public int goBack(int slot) throws IllegalArgumentException, IllegalStateException {
        requireArgument(slot >= 0 && slot < SLOTS);
        requireState(kept[slot]);
        history.push(now);
        now.copyFrom(snapshots[slot]);
        return now.tick;
    }

    // ---- queries; nothing changes

    /** Returns a number of a section. */
    public int section(int section, int what)
            throws IndexOutOfBoundsException, IllegalArgumentException {
        requireIndex(section >= 0 && section < SECTIONS);
        requireArgument(isWithin(what, 0, 4));
        switch (what) {
            case 0:
                return now.grades[section];
            case 1:
                return now.limits[section];
            case 2:
                return now.carsInSection(section, ROLLING);
            case 3:
                return now.carsInSection(section, RAN_AWAY);
            default:
                return now.runaways[section];
        }
    }

    /** Returns a number of a car. */
    public int carOf(int car, int what)
            throws IndexOutOfBoundsException, IllegalArgumentException {
        requireIndex(now.hasCar(car));
        requireArgument(isWithin(what, 0, 9));
        return now.cars[car].number(what);
    }

    /** Returns the cars in a state, as a bit mask. */
    public int cars(int state) throws IllegalArgumentException {
        requireArgument(isWithin(state, AT_MINE, PULLED));
        return now.carsInState(state);
    }

    /** Returns a car that is rolling, in the order in which they move; NONE behind the last. */
    public int rolling(int rank) throws IllegalArgumentException {
        requireArgument(rank >= 0);
        for (int car = 0; car < now.carCount; car++) {
            if (now.cars[car].state == ROLLING && now.rankOf(car) == rank) {
                return car;
            }
        }
        return NONE;
    }

    /** Returns a number of the railway. */
    public int count(int what) throws IllegalArgumentException {
        requireArgument(isWithin(what, 0, 13));
        switch (what) {
            case 9:
                return history.size;
            case 10:
                return orders.length;
            default:
                return now.number(what);
        }
    }

    // ---- what would be; nothing changes

    /** Tells why a release or pulling would be refused; 0 if it would not be. */
    public int refusal(int car, boolean release) throws IndexOutOfBoundsException {
        requireIndex(now.hasCar(car));
        return release ? now.releaseRefusal(car) : now.pullRefusal(car);
    }

    /** Tells how a car alone on the track would come down. */
    public int ifAlone(int ore, int brake, int what) throws IllegalArgumentException {
        requireArgument(isWithin(ore, 0, MAX_ORE));
        requireArgument(isWithin(brake, 0, MAX_BRAKE));
        requireArgument(isWithin(what, 0, 4));
        int ticks = tryAlone(ore, brake);
        Car car = trial.cars[0];
        switch (what) {
            case 0:
                return car.state;
            case 1:
                return ticks;
            case 2:
                return car.delivered;
            case 3:
                return car.place;
            default:
                return car.greatestSpeed;
        }
    }

    /** Finds the least brake with which a car alone would bring all its ore to the mill. */
    public int leastBrake(int ore) throws IllegalArgumentException {
        requireArgument(isWithin(ore, 0, MAX_ORE));
        for (int brake = 0; brake <= MAX_BRAKE; brake++) {
            tryAlone(ore, brake);
            Car car = trial.cars[0];
            if (car.state == AT_MILL && car.delivered == ore) {
                return brake;
            }
        }
        return NONE;
    }

    /** Tells what would be after some ticks, if nothing else was done. */
    public int ifRun(int ticks, int what) throws IllegalArgumentException {
        requireArgument(isWithin(ticks, 1, MAX_FORESIGHT));
        requireArgument(isWithin(what, 0, 4));
        trial.copyFrom(now);
        trial.passTicks(ticks);
        switch (what) {
            case 0:
                return trial.delivered - now.delivered;
            case 1:
                return trial.spilled - now.spilled;
            case 2:
                return trial.carsInState(RAN_AWAY);
            case 3:
                return trial.bumps() - now.bumps();
            default:
                return trial.carsInState(ROLLING);
        }
    }

    /** Returns the mean speed of the cars that are rolling; 0 if none is. */
    public float meanSpeed() {
        int sum = 0;
        int rolling = 0;
        for (int car = 0; car < now.carCount; car++) {
            if (now.cars[car].state == ROLLING) {
                sum += now.cars[car].speed;
                rolling++;
            }
        }
        return rolling == 0 ? 0.0f : (float) sum / (float) rolling;
    }

    // ---- helpers of the face

    private static void requireIndex(boolean holds) {
        if (!holds) {
            throw new IndexOutOfBoundsException("there is no such number");
        }
    }

    private static void requireArgument(boolean holds) {
        if (!holds) {
            throw new IllegalArgumentException("the argument is not allowed");
        }
    }

    private static void requireState(boolean holds) {
        if (!holds) {
            throw new IllegalStateException("this is not possible now");
        }
    }

    private static boolean isWithin(int value, int least, int greatest) {
        return value >= least && value <= greatest;
    }

    private static int leastOfSetting(int setting) {
        return setting == PACE ? 1 : 0;
    }

    private static int greatestOfSetting(int setting) {
        switch (setting) {
            case DRAG:
                return 5;
            case PACE:
                return 20;
            default:
                return 4;
        }
    }

    /** Performs the order from start to end; tells whether it was neither refused nor wrong. */
    private boolean perform(int start, int end) {
        char kind = orders.signAt(start);
        if (kind == 'n') {
            return now.addCar() != NONE;
        }
        if (kind == 't') {
            now.passTicks(orders.numberAt(start + 1, end));
            return true;
        }
        int car = orders.numberAt(start + 1, start + 2);
        return now.hasCar(car) && performOn(car, kind, orders.numberAt(start + 3, end));
    }

    private boolean performOn(int car, char kind, int number) {
        if (kind == 'r') {
            return now.letRoll(car, number) == 0;
        }
        if (kind == 'm') {
            return now.harnessMule(car) == 0;
        }
        if (kind == 'l' && now.canLoad(car, number)) {
            now.addOre(car, number);
            return true;
        }
        if (kind == 'b' && now.isRolling(car)) {
            now.changeBrake(car, number);
            return true;
        }
        return false;
    }

    /** Lets one car come down in the trial state; returns the number of ticks that pass. */
    private int tryAlone(int ore, int brake) {
        trial.copyFrom(now);
        trial.leaveOneCar(ore, brake);
        int ticks = 0;
        while (ticks < MAX_FORESIGHT && trial.isRolling(0)) {
            trial.passTick();
            ticks++;
        }
        return ticks;
    }

    /** A car and what it did so far. */
    private static final class Car {
        int state;
        int ore;
        int brake;
        int speed;
        int place;
        int heat;
        int delivered;
        int bumps;
        int greatestSpeed;

        void copyFrom(Car other) {
            state = other.state;
            ore = other.ore;
            brake = other.brake;
            speed = other.speed;
            place = other.place;
            heat = other.heat;
            delivered = other.delivered;
            bumps = other.bumps;
            greatestSpeed = other.greatestSpeed;
        }

        void makeNew() {
            state = AT_MINE;
            ore = 0;
            brake = 0;
            speed = 0;
            place = 0;
            heat = 0;
            delivered = 0;
            bumps = 0;
            greatestSpeed = 0;
        }

        int force() {
            return heat <= HOT ? brake : brake / 2;
        }

        void changeSpeed(int slope) {
            int changed = speed + slope + ore / ORE_PER_SPEED - force();
            speed = Math.max(0, Math.min(MAX_SPEED, changed));
            greatestSpeed = Math.max(greatestSpeed, speed);
        }

        void changeHeat() {
            if (speed > 0) {
                heat = Math.min(MAX_HEAT, heat + brake);
            } else {
                coolDown();
            }
        }

        void coolDown() {
            heat = heat > COOLING ? heat - COOLING : 0;
        }

        int number(int what) {
            switch (what) {
                case 0:
                    return state;
                case 1:
                    return ore;
                case 2:
                    return brake;
                case 3:
                    return speed;
                case 4:
                    return place;
                case 5:
                    return heat;
                case 6:
                    return force();
                case 7:
                    return delivered;
                case 8:
                    return bumps;
                default:
                    return greatestSpeed;
            }
        }
    }

    /** All that undo and snapshots restore: the track, the cars, the settings, the accounts. */
    private static final class State {
        final int[] grades = new int[SECTIONS];
        final int[] limits = new int[SECTIONS];
        final int[] runaways = new int[SECTIONS];
        final int[] settings = new int[SETTINGS];
        final Car[] cars = new Car[MAX_CARS];
        /** The cars in the order in which they move; it holds for one tick only. */
        final int[] movers = new int[MAX_CARS];
        int carCount;
        int tick;
        int loaded;
        int delivered;
        int spilled;
        int refusals;

        State() {
            for (int section = 0; section < SECTIONS; section++) {
                grades[section] = FIRST_GRADE;
            }
            for (int car = 0; car < MAX_CARS; car++) {
                cars[car] = new Car();
            }
            settings[DRAG] = 2;
            settings[PACE] = 6;
            settings[MULES] = 1;
        }

        void copyFrom(State other) {
            System.arraycopy(other.grades, 0, grades, 0, SECTIONS);
            System.arraycopy(other.limits, 0, limits, 0, SECTIONS);
            System.arraycopy(other.runaways, 0, runaways, 0, SECTIONS);
            System.arraycopy(other.settings, 0, settings, 0, SETTINGS);
            for (int car = 0; car < MAX_CARS; car++) {
                cars[car].copyFrom(other.cars[car]);
            }
            carCount = other.carCount;
            tick = other.tick;
            loaded = other.loaded;
            delivered = other.delivered;
            spilled = other.spilled;
            refusals = other.refusals;
        }

        // -- cars

        boolean hasCar(int car) {
            return car >= 0 && car < carCount && carCount <= MAX_CARS;
        }

        boolean isRolling(int car) {
            return hasCar(car) && cars[car].state == ROLLING;
        }

        /** Returns the number of the new car; NONE if there is no room for it. */
        int addCar() {
            if (carCount < 0 || carCount >= MAX_CARS) {
                return NONE;
            }
            cars[carCount].makeNew();
            carCount++;
            return carCount - 1;
        }

        boolean canLoad(int car, int ore) {
            return hasCar(car) && cars[car].state == AT_MINE && cars[car].ore + ore <= MAX_ORE;
        }

        /** Only for a car that can be loaded so; returns its ore then. */
        int addOre(int car, int ore) {
            cars[car].ore += ore;
            loaded += ore;
            return cars[car].ore;
        }

        int releaseRefusal(int car) {
            if (cars[car].state != AT_MINE) {
                return 1;
            }
            return carsInSection(0, ROLLING) != 0 ? 2 : 0;
        }

        int letRoll(int car, int brake) {
            int reason = releaseRefusal(car);
            if (reason != 0) {
                refusals++;
                return reason;
            }
            cars[car].state = ROLLING;
            cars[car].brake = brake;
            return 0;
        }

        /** Only for a car that is rolling; returns its previous brake. */
        int changeBrake(int car, int brake) {
            int previous = cars[car].brake;
            cars[car].brake = brake;
            return previous;
        }

        int pullRefusal(int car) {
            int state = cars[car].state;
            if (state != AT_MILL && state != RAN_AWAY) {
                return 1;
            }
            return freeMules() == 0 ? 2 : 0;
        }

        int harnessMule(int car) {
            int reason = pullRefusal(car);
            if (reason != 0) {
                refusals++;
                return reason;
            }
            cars[car].state = PULLED;
            cars[car].brake = 0;
            return 0;
        }

        /** Takes all cars away but one, which begins to roll, as new, with this ore and brake. */
        void leaveOneCar(int ore, int brake) {
            carCount = 1;
            cars[0].makeNew();
            cars[0].state = ROLLING;
            cars[0].ore = ore;
            cars[0].brake = brake;
        }

        // -- ticks

        void passTicks(int ticks) {
            for (int passed = 0; passed < ticks; passed++) {
                passTick();
            }
        }

        void passTick() {
            tick++;
            int rolling = carsInState(ROLLING);
            lineUp();
            for (int rank = 0; rank < MAX_CARS; rank++) {
                if (hasCar(movers[rank])) {
                    moveCar(movers[rank]);
                }
            }
            for (int car = 0; car < carCount; car++) {
                if ((rolling & (1 << car)) == 0) {
                    cars[car].coolDown();
                }
                if (cars[car].state == PULLED) {
                    pullOn(cars[car]);
                }
            }
        }

        /** Puts the rolling cars into the row of movers, and NONE behind the last of them. */
        private void lineUp() {
            for (int rank = 0; rank < MAX_CARS; rank++) {
                movers[rank] = NONE;
            }
            for (int car = 0; car < carCount; car++) {
                int rank = rankOf(car);
                if (cars[car].state == ROLLING && rank < MAX_CARS) {
                    movers[rank] = car;
                }
            }
        }

        /** Returns how many rolling cars are before this one, and so move earlier. */
        int rankOf(int car) {
            int rank = 0;
            for (int other = 0; other < carCount; other++) {
                if (isBefore(other, car)) {
                    rank++;
                }
            }
            return rank;
        }

        private boolean isBefore(int other, int car) {
            int ahead = cars[other].place - cars[car].place;
            return cars[other].state == ROLLING && (ahead > 0 || ahead == 0 && other < car);
        }

        private void moveCar(int number) {
            Car car = cars[number];
            int from = car.place;
            car.changeSpeed(gradeAt(from) - settings[DRAG]);
            car.changeHeat();
            int next = nextBefore(number);
            car.place = from + car.speed;
            if (next != NONE && car.place > cars[next].place - LEAST_DISTANCE) {
                bump(car, from, cars[next]);
            }
            int section = runawaySection(from, car.place, car.speed);
            if (section != NONE) {
                runaways[section]++;
                car.state = RAN_AWAY;
                car.place = section * SECTION_LENGTH;
                car.speed = 0;
            } else if (car.place >= MILL_PLACE) {
                arrive(car);
            }
        }

        private int gradeAt(int place) {
            int section = place / SECTION_LENGTH;
            return section >= 0 && section < SECTIONS ? grades[section] : 0;
        }

        /** Returns the nearest rolling car before this one; NONE if there is none. */
        private int nextBefore(int car) {
            int nearest = NONE;
            for (int other = 0; other < carCount; other++) {
                // Of several at one place the highest number counts, so the later one wins.
                if (isBefore(other, car)
                        && (nearest == NONE || cars[other].place <= cars[nearest].place)) {
                    nearest = other;
                }
            }
            return nearest;
        }

        private void bump(Car car, int from, Car other) {
            car.place = Math.max(from, other.place - LEAST_DISTANCE);
            car.speed = Math.min(car.speed, other.speed);
            car.bumps++;
        }

        /** Returns the first section whose switch leads such a car away; NONE if none does. */
        private int runawaySection(int from, int to, int speed) {
            for (int section = Math.max(0, from / SECTION_LENGTH) + 1;
                    section < SECTIONS && section * SECTION_LENGTH <= to; section++) {
                if (limits[section] > 0 && speed > limits[section]) {
                    return section;
                }
            }
            return NONE;
        }

        private void arrive(Car car) {
            int lost = car.speed > SPILLING_SPEED ? car.ore / 2 : 0;
            spilled += lost;
            delivered += car.ore - lost;
            car.delivered += car.ore - lost;
            car.state = AT_MILL;
            car.place = MILL_PLACE;
            car.ore = 0;
            car.speed = 0;
            car.brake = 0;
        }

        private void pullOn(Car car) {
            car.place = Math.max(0, car.place - settings[PACE]);
            if (car.place == 0) {
                car.state = AT_MINE;
            }
        }

        // -- queries

        int switchCount() {
            int switches = 0;
            for (int section = 0; section < SECTIONS; section++) {
                if (limits[section] > 0) {
                    switches++;
                }
            }
            return switches;
        }

        int carsInState(int state) {
            int mask = 0;
            for (int car = 0; car < carCount; car++) {
                if (cars[car].state == state) {
                    mask |= 1 << car;
                }
            }
            return mask;
        }

        int carsInSection(int section, int state) {
            int mask = 0;
            for (int car = 0; car < carCount; car++) {
                if (cars[car].state == state && cars[car].place / SECTION_LENGTH == section) {
                    mask |= 1 << car;
                }
            }
            return mask;
        }

        int freeMules() {
            return Math.max(0, settings[MULES] - Integer.bitCount(carsInState(PULLED)));
        }

        int oreInCars() {
            int ore = 0;
            for (int car = 0; car < carCount; car++) {
                ore += cars[car].ore;
            }
            return ore;
        }

        int bumps() {
            int bumps = 0;
            for (int car = 0; car < carCount; car++) {
                bumps += cars[car].bumps;
            }
            return bumps;
        }

        /** Returns a number of count(), but for those that are not part of the state. */
        int number(int what) {
            switch (what) {
                case 0:
                    return tick;
                case 1:
                    return carCount;
                case 2:
                    return switchCount();
                case 3:
                    return loaded;
                case 4:
                    return delivered;
                case 5:
                    return spilled;
                case 6:
                    return oreInCars();
                case 7:
                    return freeMules();
                case 8:
                    return refusals;
                case 11:
                    return settings[DRAG];
                case 12:
                    return settings[PACE];
                default:
                    return settings[MULES];
            }
        }
    }

    /** The states that were saved last, in a ring of rows that are used again. */
    private static final class History {
        final State[] saved = new State[MAX_SAVED];
        int next;
        int size;

        History() {
            for (int index = 0; index < MAX_SAVED; index++) {
                saved[index] = new State();
            }
        }

        void push(State state) {
            saved[next].copyFrom(state);
            next = next + 1 < MAX_SAVED ? next + 1 : 0;
            size = Math.min(MAX_SAVED, size + 1);
        }

        /** Only while a state is saved. */
        void popInto(State state) {
            next = next > 0 ? next - 1 : MAX_SAVED - 1;
            size--;
            state.copyFrom(saved[next]);
        }
    }

    /** The buffer, and what an order text can have at each of its characters. */
    private static final class OrderText {
        // What is due next: each name tells what the next character can be.
        private static final int WRONG = -1;
        private static final int ORDER = 0;
        private static final int END = 1;
        private static final int CAR_TO_LOAD = 2;
        private static final int PLUS = 3;
        private static final int ORE = 4;
        private static final int CAR_TO_BRAKE = 5;
        private static final int SLASH = 6;
        private static final int BRAKE = 7;
        private static final int CAR_TO_PULL = 8;
        private static final int TICKS = 9;
        private static final int DIGIT_OR_END = 10;
        private static final int ZERO_OR_END = 11;

        final char[] text = new char[MAX_TEXT];
        int length;

        /** Tells whether there was room for the sign. */
        boolean addSign(char sign) {
            if (length < 0 || length >= MAX_TEXT) {
                return false;
            }
            text[length] = sign;
            length++;
            return true;
        }

        char signAt(int index) {
            return index >= 0 && index < length && index < MAX_TEXT ? text[index] : (char) 0;
        }

        int errorIndex() {
            int due = ORDER;
            for (int index = 0; index < length; index++) {
                due = dueAfter(due, signAt(index));
                if (due == WRONG) {
                    return index;
                }
            }
            return length;
        }

        boolean isComplete() {
            int due = ORDER;
            for (int index = 0; index < length && due != WRONG; index++) {
                due = dueAfter(due, signAt(index));
            }
            return due == END || due == DIGIT_OR_END || due == ZERO_OR_END;
        }

        boolean isOrderEnd(int index) {
            return index == length || signAt(index) == ';';
        }

        /** Reads the digits from start up to end; 0 if there are none. */
        int numberAt(int start, int end) {
            int number = 0;
            for (int index = start; index < end; index++) {
                number = number * 10 + signAt(index) - '0';
            }
            return number;
        }

        private static int dueAfter(int due, char sign) {
            switch (due) {
                case ORDER:
                    return dueAfterLetter(sign);
                case CAR_TO_LOAD:
                    return isDigit(sign, '0', '7') ? PLUS : WRONG;
                case PLUS:
                    return sign == '+' ? ORE : WRONG;
                case ORE:
                    return dueAfterFirstDigit(sign, '2');
                case CAR_TO_BRAKE:
                    return isDigit(sign, '0', '7') ? SLASH : WRONG;
                case SLASH:
                    return sign == '/' ? BRAKE : WRONG;
                case BRAKE:
                    return isDigit(sign, '0', '9') ? END : WRONG;
                case CAR_TO_PULL:
                    return isDigit(sign, '0', '7') ? END : WRONG;
                case TICKS:
                    return dueAfterFirstDigit(sign, '6');
                default:
                    return dueAfterEnd(due, sign);
            }
        }

        private static int dueAfterLetter(char letter) {
            switch (letter) {
                case 'n':
                    return END;
                case 'l':
                    return CAR_TO_LOAD;
                case 'r':
                case 'b':
                    return CAR_TO_BRAKE;
                case 'm':
                    return CAR_TO_PULL;
                case 't':
                    return TICKS;
                default:
                    return WRONG;
            }
        }

        /** The greatest number has two digits, this first one and a zero. */
        private static int dueAfterFirstDigit(char digit, char firstOfGreatest) {
            if (!isDigit(digit, '1', '9')) {
                return WRONG;
            }
            if (digit == firstOfGreatest) {
                return ZERO_OR_END;
            }
            return digit < firstOfGreatest ? DIGIT_OR_END : END;
        }

        /** What is due where an order can end. */
        private static int dueAfterEnd(int due, char sign) {
            if (sign == ';') {
                return ORDER;
            }
            boolean another = due == DIGIT_OR_END && isDigit(sign, '0', '9')
                    || due == ZERO_OR_END && sign == '0';
            return another ? END : WRONG;
        }

        private static boolean isDigit(char sign, char first, char last) {
            return sign >= first && sign <= last;
        }
    }
}
