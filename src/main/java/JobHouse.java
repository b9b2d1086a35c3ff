import java.util.NoSuchElementException;

/** Jobs on a clock of its own: at once, later, at a rate, with a delay, or by cron expressions. */
public final class JobHouse {
    private static final int NONE = -1;
    private static final long BEFORE_ALL = -(1L << 60);
    private static final long BEHIND_ALL = 1L << 60;
    private static final long LAST_TIME = 10413791999999L;
    private static final long LAST_SECOND = 10413791999L;
    private static final int SECONDS_A_DAY = 86400;
    private static final int LAST_DAY = 120529;
    private static final int FIRST_YEAR = 1970;
    private static final int LAST_YEAR = 2299;

    private static final int TAPE_ROOM = 400;
    private static final int ZONES = 8;
    private static final int CRONS = 16;
    private static final int CALENDARS = 4;
    private static final int HOLIDAYS = 200;
    private static final int JOBS = 100;
    private static final int MOST_WORKERS = 8;
    private static final int MOST_STARTS = 500;
    private static final long LONGEST_SPAN = 1L << 40;
    private static final long LONGEST_WAY = 1L << 43;
    /** Each step of an advance starts or frees a job, so this is far above what one can need. */
    private static final int MOST_STEPS = 100000;

    private static final int ONE_SHOT = 0;
    private static final int FIXED_RATE = 1;
    private static final int FIXED_DELAY = 2;
    private static final int BY_CRON = 3;

    private static final int ALL_MISSED = 0;
    private static final int ONCE_MISSED = 1;
    private static final int SKIP_MISSED = 2;

    private static final int ABSENT = 0;
    private static final int PENDING = 1;
    private static final int RUNNING = 2;
    private static final int STOPPED = 3;

    private final Text tape = new Text();
    private final Zone[] zones = new Zone[ZONES];
    private final Cron[] crons = new Cron[CRONS];
    private final Holidays[] calendars = new Holidays[CALENDARS];
    private final Holidays noHolidays = new Holidays(0);
    private final Fires fires = new Fires();
    private Zone spareZone = new Zone();
    private Cron spareCron = new Cron();

    private long clock;
    private final Job[] jobs = new Job[JOBS];
    private int slotsUsed;
    private int jobCount;
    private int nextOrder;
    private final int[] running = new int[MOST_WORKERS];
    private int runningCount;
    private int workerCount = 4;
    private boolean closed;
    private final StartLog log = new StartLog();

    public JobHouse() {
        for (int i = 0; i < ZONES; i++) {
            zones[i] = new Zone();
        }
        for (int i = 0; i < CRONS; i++) {
            crons[i] = new Cron();
        }
        for (int i = 0; i < CALENDARS; i++) {
            calendars[i] = new Holidays(HOLIDAYS);
        }
        for (int i = 0; i < JOBS; i++) {
            jobs[i] = new Job();
        }
    }

    public int feed(int a, int b, int c, int d, int e) throws IndexOutOfBoundsException {
        if (tape.length + 20 > TAPE_ROOM) {
            throw new IndexOutOfBoundsException();
        }
        tape.addWord(a);
        tape.addWord(b);
        tape.addWord(c);
        tape.addWord(d);
        tape.addWord(e);
        return tape.length;
    }

    public int end(int n) throws IllegalArgumentException {
        checkRange(n, 0, tape.length);
        tape.length = n;
        return n;
    }

    public void zone(int z) throws IllegalArgumentException, UnsupportedOperationException {
        checkRange(z, 0, ZONES - 1);
        tape.rewind();
        spareZone.readFrom(tape);
        tape.length = 0;
        checkNotBroken();
        Zone old = zones[z];
        zones[z] = spareZone;
        spareZone = old;
    }

    public void cron(int k) throws IllegalArgumentException, UnsupportedOperationException {
        checkRange(k, 0, CRONS - 1);
        tape.rewind();
        CronReader.readCron(tape, spareCron);
        tape.length = 0;
        checkNotBroken();
        Cron old = crons[k];
        crons[k] = spareCron;
        spareCron = old;
    }

    public int holiday(int c, int day, boolean yes)
            throws IllegalArgumentException, IndexOutOfBoundsException {
        checkRange(c, 0, CALENDARS - 1);
        checkRange(day, 0, LAST_DAY);
        Holidays calendar = calendars[c];
        int place = calendar.placeOf(day);
        if (yes && place < 0) {
            if (calendar.size >= HOLIDAYS) {
                throw new IndexOutOfBoundsException();
            }
            calendar.insert(-1 - place, day);
        }
        if (!yes && place >= 0) {
            calendar.removeAt(place);
        }
        return calendar.size;
    }

    public long next(int k, int z, int c, long t) throws IllegalArgumentException {
        checkSearch(k, z, c);
        checkRange(t, 0, LAST_TIME);
        aimAt(k, z, c);
        return fires.firstAfter(t);
    }

    public long last(int k, int z, int c, long t) throws IllegalArgumentException {
        checkSearch(k, z, c);
        checkRange(t, 0, LAST_TIME);
        aimAt(k, z, c);
        return fires.latestUpTo(t);
    }

    public int local(int z, long t, int what) throws IllegalArgumentException {
        checkRange(z, 0, ZONES - 1);
        checkRange(t, 0, LAST_TIME);
        checkRange(what, 0, 7);
        int offset = zones[z].offsetAt(t / 1000);
        long second = t / 1000 + offset;
        int time = (int) Math.floorMod(second, (long) SECONDS_A_DAY);
        int day = Dates.dayOf(second);
        int year = Dates.yearOf(day);
        int month = Dates.monthOf(day, year);
        switch (what) {
            case 0: return time % 60;
            case 1: return time / 60 % 60;
            case 2: return time / 3600;
            case 3: return day - Dates.firstOfMonth(year, month) + 1;
            case 4: return month;
            case 5: return year;
            case 6: return Dates.weekdayOf(day);
            default: return offset / 60;
        }
    }

    public int make(int kind, long delay, long period, long duration, int priority, int policy,
            int fails) throws IllegalArgumentException, IllegalStateException,
            IndexOutOfBoundsException {
        checkRange(kind, ONE_SHOT, FIXED_DELAY);
        checkRange(delay, 0, Math.min(LONGEST_SPAN, LAST_TIME - clock));
        if (kind == ONE_SHOT) {
            checkRange(period, 0, 0);
        } else {
            checkRange(period, 1, LONGEST_SPAN);
        }
        checkRun(duration, policy, fails);
        checkOpen();
        int slot = freeSlot();
        Job job = jobs[slot];
        fill(job, duration, priority, policy, fails);
        job.kind = kind;
        job.period = period;
        job.nominal = clock + delay;
        return slot;
    }

    public int makeCron(int k, int z, int c, long duration, int priority, int policy, int fails)
            throws IllegalArgumentException, IllegalStateException, UnsupportedOperationException,
            IndexOutOfBoundsException {
        checkSearch(k, z, c);
        checkRun(duration, policy, fails);
        checkOpen();
        aimAt(k, z, c);
        long nominal = fires.firstAfter(clock);
        if (nominal < 0) {
            throw new UnsupportedOperationException();
        }
        int slot = freeSlot();
        Job job = jobs[slot];
        fill(job, duration, priority, policy, fails);
        job.kind = BY_CRON;
        job.cronNumber = k;
        job.zoneNumber = z;
        job.calendarNumber = c;
        job.nominal = nominal;
        return slot;
    }

    public int cancel(int j) throws NoSuchElementException {
        Job job = jobAt(j);
        if (job.state == PENDING) {
            remove(job);
            return 1;
        }
        job.state = STOPPED;
        return 2;
    }

    public int workers(int n) throws IllegalArgumentException {
        checkRange(n, 0, MOST_WORKERS);
        int before = workerCount;
        workerCount = n;
        return before;
    }

    public int advance(long n) throws IllegalArgumentException {
        checkWay(n);
        long target = clock + n;
        log.size = 0;
        for (int step = 0; step < MOST_STEPS; step++) {
            // First of all, as one of duration 0 is freed before the next start or the call's end.
            int place = firstEnded();
            if (place >= 0) {
                free(place, nominalBehind(jobs[running[place]]));
                continue;
            }
            if (log.size >= MOST_STARTS) {
                break;
            }
            int slot = runningCount < workerCount ? firstPending() : NONE;
            if (slot >= 0 && jobs[slot].nominal <= clock) {
                begin(slot);
                continue;
            }
            long time = nextTime(slot);
            if (time > target) {
                clock = target;
                break;
            }
            clock = time;
        }
        return log.size;
    }

    public void stall(long n) throws IllegalArgumentException {
        checkWay(n);
        clock += n;
    }

    public int close(boolean once, boolean periodic) throws IllegalStateException {
        checkOpen();
        closed = true;
        for (int i = 0; i < slotsUsed; i++) {
            Job job = jobs[i];
            boolean meant = job.kind == ONE_SHOT ? once : periodic;
            if (meant && job.state == PENDING) {
                remove(job);
            } else if (meant && job.state == RUNNING && job.kind != ONE_SHOT) {
                job.state = STOPPED;
            }
        }
        return jobCount;
    }

    public long job(int j, int what) throws IllegalArgumentException, NoSuchElementException {
        checkRange(what, 0, 4);
        Job job = jobAt(j);
        switch (what) {
            case 0: return job.state;
            case 1: return job.nominal;
            case 2: return job.starts;
            case 3: return job.order;
            default: return job.state == PENDING ? NONE : job.endTime;
        }
    }

    public long start(int i, int what) throws IllegalArgumentException, NoSuchElementException {
        checkRange(what, 0, 2);
        if (i < 0 || i >= log.size) {
            throw new NoSuchElementException();
        }
        switch (what) {
            case 0: return log.times[i];
            case 1: return log.slots[i];
            default: return log.nominals[i];
        }
    }

    public long count(int what) throws IllegalArgumentException {
        checkRange(what, 0, 5);
        switch (what) {
            case 0: return clock;
            case 1: return jobCount;
            case 2: return runningCount;
            case 3: return log.total;
            case 4: return tape.length;
            default: return tape.broken;
        }
    }

    private static void checkRange(long value, long low, long high) {
        if (value < low || value > high) {
            throw new IllegalArgumentException();
        }
    }

    private static void checkSearch(int k, int z, int c) {
        checkRange(k, 0, CRONS - 1);
        checkRange(z, 0, ZONES - 1);
        checkRange(c, NONE, CALENDARS - 1);
    }

    private static void checkRun(long duration, int policy, int fails) {
        checkRange(duration, 0, LONGEST_SPAN);
        checkRange(policy, ALL_MISSED, SKIP_MISSED);
        checkRange(fails, 0, BEHIND_ALL);
    }

    private void checkWay(long n) {
        checkRange(n, 0, Math.min(LONGEST_WAY, LAST_TIME - clock));
    }

    private void checkOpen() {
        if (closed) {
            throw new IllegalStateException();
        }
    }

    private void checkNotBroken() {
        if (tape.broken != NONE) {
            throw new UnsupportedOperationException();
        }
    }

    private void aimAt(int k, int z, int c) {
        fires.cron = crons[k];
        fires.zone = zones[z];
        fires.holidays = c < 0 ? noHolidays : calendars[c];
    }

    private int freeSlot() {
        for (int i = 0; i < JOBS; i++) {
            if (jobs[i].state == ABSENT) {
                return i;
            }
        }
        throw new IndexOutOfBoundsException();
    }

    private void fill(Job job, long duration, int priority, int policy, int fails) {
        job.state = PENDING;
        job.duration = duration;
        job.priority = priority;
        job.policy = policy;
        job.fails = fails;
        job.starts = 0;
        job.order = nextOrder;
        nextOrder++;
        jobCount++;
        // The least free slot is always taken, so the slots ever used are the first ones.
        slotsUsed = Math.max(slotsUsed, jobCount);
    }

    private void remove(Job job) {
        job.state = ABSENT;
        jobCount--;
    }

    private Job jobAt(int j) {
        if (j < 0 || j >= JOBS || jobs[j].state == ABSENT) {
            throw new NoSuchElementException();
        }
        return jobs[j];
    }

    /** The place among the running jobs of the one that is to be freed first. */
    private int firstEnded() {
        int best = NONE;
        for (int i = 0; i < runningCount; i++) {
            Job job = jobs[running[i]];
            if (job.endTime <= clock && (best < 0 || job.order < jobs[running[best]].order)) {
                best = i;
            }
        }
        return best;
    }

    /** The next nominal time of a job that is freed now, or a negative number if there is none. */
    private long nominalBehind(Job job) {
        if (job.isOver()) {
            return NONE;
        }
        if (job.kind == FIXED_DELAY) {
            return clock + job.period;
        }
        if (job.kind == FIXED_RATE) {
            return job.rateTimeBehind(clock);
        }
        aimAt(job.cronNumber, job.zoneNumber, job.calendarNumber);
        if (job.policy == ONCE_MISSED) {
            long missed = fires.latestUpTo(clock);
            if (missed > job.nominal) {
                return missed;
            }
        }
        return fires.firstAfter(job.policy == SKIP_MISSED ? clock : job.nominal);
    }

    private void free(int place, long nominal) {
        Job job = jobs[running[place]];
        runningCount--;
        running[place] = running[runningCount];
        if (nominal < 0 || nominal > LAST_TIME) {
            remove(job);
        } else {
            job.nominal = nominal;
            job.state = PENDING;
        }
    }

    private int firstPending() {
        int best = NONE;
        for (int i = 0; i < slotsUsed; i++) {
            if (jobs[i].state == PENDING && (best < 0 || jobs[i].isAheadOf(jobs[best]))) {
                best = i;
            }
        }
        return best;
    }

    private void begin(int slot) {
        Job job = jobs[slot];
        job.state = RUNNING;
        job.starts++;
        job.endTime = clock + job.duration;
        if (runningCount < MOST_WORKERS) {
            running[runningCount] = slot;
            runningCount++;
        }
        log.add(clock, slot, job.nominal);
    }

    /** When something is to be done next, if the given job is the first that waits for a worker. */
    private long nextTime(int waiting) {
        long time = waiting < 0 ? BEHIND_ALL : jobs[waiting].nominal;
        for (int i = 0; i < runningCount; i++) {
            time = Math.min(time, jobs[running[i]].endTime);
        }
        return time;
    }

    /** A job's slot: made once, filled again by each job that takes its number. */
    private static final class Job {
        private int state;
        private int kind;
        private int order;
        private int starts;
        private long nominal;
        private long endTime;
        private long period;
        private long duration;
        private int priority;
        private int policy;
        private int fails;
        private int cronNumber;
        private int zoneNumber;
        private int calendarNumber;

        boolean isAheadOf(Job other) {
            if (nominal != other.nominal) {
                return nominal < other.nominal;
            }
            if (priority != other.priority) {
                return priority > other.priority;
            }
            return order < other.order;
        }

        /** Whether it goes with this run; the first run has number 1, so fails 0 is never met. */
        boolean isOver() {
            return state == STOPPED || kind == ONE_SHOT || starts == fails;
        }

        long rateTimeBehind(long time) {
            if (period < 1) {
                return NONE;
            }
            long missed = (time - nominal) / period;
            if (policy == SKIP_MISSED) {
                return nominal + (missed + 1) * period;
            }
            if (policy == ONCE_MISSED && missed > 1) {
                return nominal + missed * period;
            }
            return nominal + period;
        }
    }

    /** The starts of the latest advance, and how many there were in all. */
    private static final class StartLog {
        private final long[] times = new long[MOST_STARTS];
        private final int[] slots = new int[MOST_STARTS];
        private final long[] nominals = new long[MOST_STARTS];
        private int size;
        private long total;

        void add(long time, int slot, long nominal) {
            if (size < MOST_STARTS) {
                times[size] = time;
                slots[size] = slot;
                nominals[size] = nominal;
                size++;
                total++;
            }
        }
    }

    /** The Gregorian calendar, from the day before 1970 to the day behind 2299. */
    private static final class Dates {
        static int firstOfMonth(int year, int month) {
            // Years that begin in March have their leap day at the end, where it moves no month.
            int marchYear = month > 2 ? year : year - 1;
            int marchMonth = month > 2 ? month - 3 : month + 9;
            int leapDays = marchYear / 4 - marchYear / 100 + marchYear / 400;
            return 365 * marchYear + leapDays + (153 * marchMonth + 2) / 5 - 719468;
        }

        static int monthLength(int year, int month) {
            if (month == 2) {
                boolean leap = year % 4 == 0 && (year % 100 != 0 || year % 400 == 0);
                return leap ? 29 : 28;
            }
            boolean isShort = month == 4 || month == 6 || month == 9 || month == 11;
            return isShort ? 30 : 31;
        }

        static int dayOf(long second) {
            return (int) Math.floorDiv(second, (long) SECONDS_A_DAY);
        }

        static int yearOf(int day) {
            int guess = FIRST_YEAR + Math.floorDiv(day * 400, 146097);
            if (firstOfMonth(guess, 1) > day) {
                return guess - 1;
            }
            return firstOfMonth(guess + 1, 1) <= day ? guess + 1 : guess;
        }

        static int monthOf(int day, int year) {
            // Months are so near to 31 days that the guess is at most one too low.
            int guess = (day - firstOfMonth(year, 1)) / 31 + 1;
            return guess < 12 && firstOfMonth(year, guess + 1) <= day ? guess + 1 : guess;
        }

        /** 1 is Sunday. */
        static int weekdayOf(int day) {
            return (day + 4) % 7 + 1;
        }
    }

    /** When in a year summer begins, or ends. */
    private static final class YearRule {
        private int month;
        private int week;
        private int weekday;
        private int minutes;

        void readFrom(Text text) {
            text.require('M');
            month = text.number(1, 12);
            text.require('.');
            week = text.number(1, 5);
            text.require('.');
            weekday = text.number(0, 6);
            text.require('/');
            minutes = text.number(0, 1439);
        }

        long secondIn(int year) {
            int first = Dates.firstOfMonth(year, month);
            int ahead = Math.floorMod(weekday + 1 - Dates.weekdayOf(first), 7);
            int date = ahead + 7 * (week - 1);
            if (date >= Dates.monthLength(year, month)) {
                date -= 7;
            }
            return (long) (first + date) * SECONDS_A_DAY + minutes * 60;
        }

        /** Its latest second of universal time, not behind one that lies in that local year. */
        long latestUpTo(long second, int offset, int localYear) {
            int year = Math.min(localYear, LAST_YEAR);
            if (year >= FIRST_YEAR && secondIn(year) - offset > second) {
                year--;
            }
            return year < FIRST_YEAR ? BEFORE_ALL : secondIn(year) - offset;
        }

        /** Its first second of universal time, behind one that lies in that local year. */
        long firstBehind(long second, int offset, int localYear) {
            int year = Math.max(localYear, FIRST_YEAR);
            if (year <= LAST_YEAR && secondIn(year) - offset <= second) {
                year++;
            }
            return year > LAST_YEAR ? BEHIND_ALL : secondIn(year) - offset;
        }
    }

    /** A time zone; it keeps the stretch of one offset that was asked for last. */
    private static final class Zone {
        private int base;
        private int save;
        private final YearRule beginning = new YearRule();
        private final YearRule ending = new YearRule();
        private long since;
        private long until = BEFORE_ALL;
        private int offset;

        void readFrom(Text text) {
            until = BEFORE_ALL;
            save = 0;
            boolean west = text.take('-');
            if (!west) {
                text.require('+');
            }
            int minutes = text.number(0, 840);
            base = (west ? -minutes : minutes) * 60;
            if (text.isDone()) {
                return;
            }
            text.requireBlanks();
            save = text.number(1, 120) * 60;
            text.requireBlanks();
            beginning.readFrom(text);
            text.requireBlanks();
            ending.readFrom(text);
            text.requireEnd();
        }

        int offsetAt(long second) {
            if (second < since || second >= until) {
                findStretch(second);
            }
            return offset;
        }

        private void findStretch(long second) {
            if (save == 0) {
                since = BEFORE_ALL;
                until = BEHIND_ALL;
                offset = base;
                return;
            }
            int summer = base + save;
            // Beginnings are told in winter's local time, ends in summer's: so are their years.
            int winterYear = Dates.yearOf(Dates.dayOf(second + base));
            int summerYear = Dates.yearOf(Dates.dayOf(second + summer));
            long begun = beginning.latestUpTo(second, base, winterYear);
            long ended = ending.latestUpTo(second, summer, summerYear);
            long begins = beginning.firstBehind(second, base, winterYear);
            long ends = ending.firstBehind(second, summer, summerYear);
            since = Math.max(begun, ended);
            until = Math.min(begins, ends);
            offset = begun > ended ? summer : base;
        }
    }

    /** The holidays of a calendar, in ascending order. */
    private static final class Holidays {
        private final int[] days;
        private int size;

        Holidays(int room) {
            days = new int[room];
        }

        /** Where the day is; if it is not there: -1 less the place where it would be. */
        int placeOf(int day) {
            int low = 0;
            int high = size;
            while (low < high) {
                int middle = (low + high) / 2;
                if (days[middle] < day) {
                    low = middle + 1;
                } else {
                    high = middle;
                }
            }
            return low < size && days[low] == day ? low : -1 - low;
        }

        void insert(int place, int day) {
            System.arraycopy(days, place, days, place + 1, size - place);
            days[place] = day;
            size++;
        }

        void removeAt(int place) {
            System.arraycopy(days, place + 1, days, place, size - place - 1);
            size--;
        }
    }

    /** A cron expression: for each field a set of bits, and a rule that makes days of a month. */
    private static final class Cron {
        private static final int SECOND = 0;
        private static final int MINUTE = 1;
        private static final int HOUR = 2;
        private static final int DAY = 3;
        private static final int MONTH = 4;
        private static final int WEEKDAY = 5;
        private static final int YEAR = 6;
        private static final int YEAR_WORDS = 6;

        private static final int BY_DAYS = 0;
        private static final int BY_WEEKDAYS = 1;
        private static final int LAST_BUT = 2;
        private static final int LAST_WORKDAY = 3;
        private static final int NEAREST_WORKDAY = 4;
        private static final int LAST_WEEKDAY = 5;
        private static final int NTH_WEEKDAY = 6;

        private final long[] sets = new long[YEAR + YEAR_WORDS];
        private int dayRule;
        private int value;
        private int n;

        static int lowest(int field) {
            switch (field) {
                case DAY: case MONTH: case WEEKDAY: return 1;
                case YEAR: return FIRST_YEAR;
                default: return 0;
            }
        }

        static int highest(int field) {
            switch (field) {
                case HOUR: return 23;
                case DAY: return 31;
                case MONTH: return 12;
                case WEEKDAY: return 7;
                case YEAR: return LAST_YEAR;
                default: return 59;
            }
        }

        void clear() {
            for (int i = 0; i < YEAR + YEAR_WORDS; i++) {
                sets[i] = 0;
            }
            dayRule = BY_DAYS;
        }

        void add(int field, int number) {
            if (field == YEAR) {
                int bit = number - FIRST_YEAR;
                sets[YEAR + bit / 64] |= 1L << bit % 64;
            } else {
                sets[field] |= 1L << number;
            }
        }

        boolean hasMonth(int month) {
            return (sets[MONTH] >> month & 1) != 0;
        }

        boolean hasYear(int year) {
            int bit = year - FIRST_YEAR;
            return (sets[YEAR + bit / 64] >> bit % 64 & 1) != 0;
        }

        /** The days of a month of that length whose first day is that weekday, as bits 1 to 31. */
        long daysOf(int length, int firstWeekday) {
            switch (dayRule) {
                case BY_DAYS: return sets[DAY] & bitsUpTo(length);
                case BY_WEEKDAYS: return weekdaysFrom(firstWeekday) & bitsUpTo(length);
                case LAST_BUT: return bitOf(length - n, length);
                case LAST_WORKDAY: return workdayNearest(length, length, firstWeekday);
                case NEAREST_WORKDAY: return workdayNearest(value, length, firstWeekday);
                default: break;
            }
            int date = 1 + Math.floorMod(value - firstWeekday, 7);
            if (dayRule == LAST_WEEKDAY) {
                return bitOf(date + (length - date) / 7 * 7, length);
            }
            return bitOf(date + 7 * (n - 1), length);
        }

        private long weekdaysFrom(int firstWeekday) {
            long week = sets[WEEKDAY] >> firstWeekday | sets[WEEKDAY] << 7 - firstWeekday;
            week = week << 1 & 0xfe;
            // Bit 1 is the month's first day now; a week's bits stand again for each week.
            return week | week << 7 | week << 14 | week << 21 | week << 28;
        }

        private static long workdayNearest(int date, int length, int firstWeekday) {
            int weekday = (firstWeekday + date - 2) % 7 + 1;
            if (date > length) {
                return 0;
            }
            if (weekday == 7) {
                return 1L << (date > 1 ? date - 1 : date + 2);
            }
            if (weekday == 1) {
                return 1L << (date < length ? date + 1 : date - 2);
            }
            return 1L << date;
        }

        private static long bitOf(int date, int length) {
            return date < 1 || date > length ? 0 : 1L << date;
        }

        private static long bitsUpTo(int high) {
            return (1L << high + 1) - 1;
        }

        /** The first second of a day that is one of these and not before the given one. */
        int timeFrom(int time) {
            int hour = lowestBit(sets[HOUR], time / 3600);
            int minute = lowestBit(sets[MINUTE], hour == time / 3600 ? time / 60 % 60 : 0);
            boolean same = hour == time / 3600 && minute == time / 60 % 60;
            int second = lowestBit(sets[SECOND], same ? time % 60 : 0);
            if (second < 0) {
                minute = lowestBit(sets[MINUTE], minute + 1);
                second = lowestBit(sets[SECOND], 0);
            }
            if (minute < 0) {
                hour = lowestBit(sets[HOUR], time / 3600 + 1);
                minute = lowestBit(sets[MINUTE], 0);
            }
            return hour < 0 ? NONE : hour * 3600 + minute * 60 + second;
        }

        /** The last second of a day that is one of these and not behind the given one. */
        int timeUpTo(int time) {
            int hour = highestBit(sets[HOUR], time / 3600);
            int minute = highestBit(sets[MINUTE], hour == time / 3600 ? time / 60 % 60 : 59);
            boolean same = hour == time / 3600 && minute == time / 60 % 60;
            int second = highestBit(sets[SECOND], same ? time % 60 : 59);
            if (second < 0) {
                minute = highestBit(sets[MINUTE], minute - 1);
                second = highestBit(sets[SECOND], 59);
            }
            if (minute < 0) {
                hour = highestBit(sets[HOUR], time / 3600 - 1);
                minute = highestBit(sets[MINUTE], 59);
            }
            return hour < 0 ? NONE : hour * 3600 + minute * 60 + second;
        }

        /** The lowest bit of the set that is not below the given one. */
        static int lowestBit(long set, int low) {
            long rest = set >> low << low;
            return rest == 0 ? NONE : Long.bitCount((rest & -rest) - 1);
        }

        /** The highest bit of the set that is not above the given one. */
        static int highestBit(long set, int high) {
            if (high < 0) {
                return NONE;
            }
            long rest = set & bitsUpTo(high);
            rest |= rest >> 1;
            rest |= rest >> 2;
            rest |= rest >> 4;
            rest |= rest >> 8;
            rest |= rest >> 16;
            rest |= rest >> 32;
            return Long.bitCount(rest) - 1;
        }
    }

    /** Finds the fires of a cron expression in a zone with a calendar. */
    private static final class Fires {
        /** A zone has at most two changes in each of 330 years. */
        private static final int MOST_STRETCHES = 10000;
        private static final int MOST_DATES = 31;

        private Cron cron = new Cron();
        private Zone zone = new Zone();
        private Holidays holidays = new Holidays(0);

        long firstAfter(long time) {
            long second = time / 1000 + 1;
            for (int i = 0; i < MOST_STRETCHES && second <= LAST_SECOND; i++) {
                long localSecond = second + zone.offsetAt(second);
                long found = localFrom(localSecond);
                if (found >= 0 && found - zone.offset < zone.until) {
                    return found - zone.offset > LAST_SECOND ? NONE : (found - zone.offset) * 1000;
                }
                if (zone.until > LAST_SECOND) {
                    return NONE;
                }
                second = zone.until;
                // Behind a change back, local times come again that lie before this search.
                if (second + zone.base < localSecond) {
                    found = localFrom(second + zone.base);
                }
                if (found < 0) {
                    return NONE;
                }
                second = Math.max(second, found - zone.base - zone.save);
            }
            return NONE;
        }

        long latestUpTo(long time) {
            long second = time / 1000;
            for (int i = 0; i < MOST_STRETCHES && second >= 0; i++) {
                long localSecond = second + zone.offsetAt(second);
                long found = localUpTo(localSecond);
                if (found >= 0 && found - zone.offset >= Math.max(zone.since, 0)) {
                    return (found - zone.offset) * 1000;
                }
                if (zone.since <= 0) {
                    return NONE;
                }
                second = zone.since - 1;
                // Before a change back, there are local times that lie behind this search.
                if (second + zone.base + zone.save > localSecond) {
                    found = localUpTo(second + zone.base + zone.save);
                }
                if (found < 0) {
                    return NONE;
                }
                second = Math.min(second, found - zone.base);
            }
            return NONE;
        }

        private long localFrom(long second) {
            int day = Dates.dayOf(second);
            int found = dayFrom(day);
            int time = NONE;
            if (found == day) {
                time = cron.timeFrom((int) (second - (long) day * SECONDS_A_DAY));
                found = time < 0 ? dayFrom(day + 1) : day;
            }
            if (found < 0) {
                return NONE;
            }
            return (long) found * SECONDS_A_DAY + (time < 0 ? cron.timeFrom(0) : time);
        }

        private long localUpTo(long second) {
            int day = Dates.dayOf(second);
            int found = dayUpTo(day);
            int time = NONE;
            if (found == day) {
                time = cron.timeUpTo((int) (second - (long) day * SECONDS_A_DAY));
                found = time < 0 ? dayUpTo(day - 1) : day;
            }
            if (found < 0) {
                return NONE;
            }
            int latest = time < 0 ? cron.timeUpTo(SECONDS_A_DAY - 1) : time;
            return (long) found * SECONDS_A_DAY + latest;
        }

        private int dayFrom(int from) {
            int day = Math.max(from, 0);
            int year = Dates.yearOf(day);
            int month = Dates.monthOf(day, year);
            int date = day - Dates.firstOfMonth(year, month) + 1;
            for (int y = year; y <= LAST_YEAR; y++) {
                if (cron.hasYear(y)) {
                    for (int m = month; m <= 12; m++) {
                        int found = cron.hasMonth(m) ? dateFrom(y, m, date) : NONE;
                        if (found >= 0) {
                            return found;
                        }
                        date = 1;
                    }
                }
                month = 1;
                date = 1;
            }
            return NONE;
        }

        private int dayUpTo(int upTo) {
            int day = Math.min(upTo, LAST_DAY);
            int year = Dates.yearOf(day);
            int month = Dates.monthOf(day, year);
            int date = day - Dates.firstOfMonth(year, month) + 1;
            for (int y = year; y >= FIRST_YEAR; y--) {
                if (cron.hasYear(y)) {
                    for (int m = month; m >= 1; m--) {
                        int found = cron.hasMonth(m) ? dateUpTo(y, m, date) : NONE;
                        if (found >= 0) {
                            return found;
                        }
                        date = MOST_DATES;
                    }
                }
                month = 12;
                date = MOST_DATES;
            }
            return NONE;
        }

        private int dateFrom(int year, int month, int low) {
            int first = Dates.firstOfMonth(year, month);
            long days = cron.daysOf(Dates.monthLength(year, month), Dates.weekdayOf(first));
            int from = low;
            for (int i = 0; i < MOST_DATES; i++) {
                int date = Cron.lowestBit(days, from);
                if (date < 0) {
                    return NONE;
                }
                if (holidays.placeOf(first + date - 1) < 0) {
                    return first + date - 1;
                }
                from = date + 1;
            }
            return NONE;
        }

        private int dateUpTo(int year, int month, int high) {
            int first = Dates.firstOfMonth(year, month);
            long days = cron.daysOf(Dates.monthLength(year, month), Dates.weekdayOf(first));
            int upTo = high;
            for (int i = 0; i < MOST_DATES; i++) {
                int date = Cron.highestBit(days, upTo);
                if (date < 0) {
                    return NONE;
                }
                if (holidays.placeOf(first + date - 1) < 0) {
                    return first + date - 1;
                }
                upTo = date - 1;
            }
            return NONE;
        }
    }

    /** The tape, and a reading of it: what comes behind the first broken place reads as nothing. */
    private static final class Text {
        private static final int BLANK = 32;
        private static final int TOO_MUCH = 1000000;

        private final byte[] bytes = new byte[TAPE_ROOM];
        private int length;
        private int at;
        private int broken = NONE;

        void addWord(int word) {
            for (int shift = 24; shift >= 0 && length < TAPE_ROOM; shift -= 8) {
                bytes[length] = (byte) (word >> shift);
                length++;
            }
        }

        void rewind() {
            at = 0;
            broken = NONE;
        }

        void breakAt(int place) {
            if (broken == NONE) {
                broken = place;
            }
        }

        boolean isDone() {
            return peek() == NONE;
        }

        int peek() {
            return broken != NONE || at >= length ? NONE : bytes[at] & 255;
        }

        boolean take(int wanted) {
            if (peek() != wanted) {
                return false;
            }
            at++;
            return true;
        }

        void require(int wanted) {
            if (!take(wanted)) {
                breakAt(at);
            }
        }

        void requireBlanks() {
            require(BLANK);
            while (at < length && bytes[at] == BLANK) {
                at++;
            }
        }

        void requireEnd() {
            if (!isDone()) {
                breakAt(at);
            }
        }

        /** A number; a 0 in front is one by itself, and no digit can follow any number. */
        int number(int low, int high) {
            int begin = at;
            int number = 0;
            boolean zero = peek() == '0';
            while (at < length && isDigit(peek()) && !(zero && at > begin)) {
                number = Math.min(number * 10 + peek() - '0', TOO_MUCH);
                at++;
            }
            if (at == begin || number < low || number > high) {
                breakAt(begin);
            }
            return broken == NONE ? number : low;
        }

        /** Which of the names, of three letters each, stands here; it is taken then. */
        int takeName(String names) {
            boolean enough = broken == NONE && at + 3 <= length;
            for (int i = 0; enough && i + 3 <= names.length(); i += 3) {
                if (bytes[at] == names.charAt(i) && bytes[at + 1] == names.charAt(i + 1)
                        && bytes[at + 2] == names.charAt(i + 2)) {
                    at += 3;
                    return i / 3;
                }
            }
            return NONE;
        }

        private static boolean isDigit(int b) {
            return b >= '0' && b <= '9';
        }
    }

    /** Reads a cron expression; the text knows afterwards whether and where it is broken. */
    private static final class CronReader {
        private static final String MONTH_NAMES = "JANFEBMARAPRMAYJUNJULAUGSEPOCTNOVDEC";
        private static final String WEEKDAY_NAMES = "SUNMONTUEWEDTHUFRISAT";

        static void readCron(Text text, Cron cron) {
            cron.clear();
            readItems(text, cron, Cron.SECOND);
            text.requireBlanks();
            readItems(text, cron, Cron.MINUTE);
            text.requireBlanks();
            readItems(text, cron, Cron.HOUR);
            text.requireBlanks();
            if (!takeDayRule(text, cron)) {
                readItems(text, cron, Cron.DAY);
            }
            text.requireBlanks();
            readItems(text, cron, Cron.MONTH);
            text.requireBlanks();
            if (!takeWeekdayRule(text, cron)) {
                readItems(text, cron, Cron.WEEKDAY);
            }
            if (text.isDone()) {
                addSome(cron, Cron.YEAR, FIRST_YEAR, LAST_YEAR, 1);
                return;
            }
            text.requireBlanks();
            readItems(text, cron, Cron.YEAR);
            text.requireEnd();
        }

        /** Answers whether the day is told by a sign that stands first, and not by items. */
        private static boolean takeDayRule(Text text, Cron cron) {
            if (text.take('?')) {
                cron.dayRule = Cron.BY_WEEKDAYS;
                return true;
            }
            if (!text.take('L')) {
                return false;
            }
            if (text.take('W')) {
                cron.dayRule = Cron.LAST_WORKDAY;
            } else {
                cron.dayRule = Cron.LAST_BUT;
                cron.n = text.take('-') ? text.number(1, 30) : 0;
            }
            return true;
        }

        /** Likewise the weekday, which has to be ? where the day is not. */
        private static boolean takeWeekdayRule(Text text, Cron cron) {
            if (cron.dayRule != Cron.BY_WEEKDAYS) {
                text.require('?');
                return true;
            }
            if (text.take('L')) {
                cron.add(Cron.WEEKDAY, 7);
                return true;
            }
            return false;
        }

        private static void readItems(Text text, Cron cron, int field) {
            boolean more = true;
            for (int i = 0; more && i < TAPE_ROOM; i++) {
                more = readItem(text, cron, field, i == 0) && text.take(',');
            }
        }

        /** Answers whether another item may follow. */
        private static boolean readItem(Text text, Cron cron, int field, boolean first) {
            int from = Cron.lowest(field);
            int to = Cron.highest(field);
            if (!text.take('*')) {
                from = readValue(text, field);
                if (first && takeSign(text, cron, field, from)) {
                    return false;
                }
                if (text.peek() != '/') {
                    to = text.take('-') ? readUpper(text, field, from) : from;
                }
            }
            int step = text.take('/') ? text.number(1, 99) : 1;
            addSome(cron, field, from, to, step);
            return true;
        }

        private static int readValue(Text text, int field) {
            int name = NONE;
            if (field == Cron.MONTH) {
                name = text.takeName(MONTH_NAMES);
            } else if (field == Cron.WEEKDAY) {
                name = text.takeName(WEEKDAY_NAMES);
            }
            int lowest = Cron.lowest(field);
            return name < 0 ? text.number(lowest, Cron.highest(field)) : lowest + name;
        }

        private static int readUpper(Text text, int field, int from) {
            int place = text.at;
            int to = readValue(text, field);
            if (field == Cron.YEAR && to < from) {
                text.breakAt(place);
            }
            return to;
        }

        /** Takes the sign behind a value that stands for a rule of its own. */
        private static boolean takeSign(Text text, Cron cron, int field, int value) {
            if (field == Cron.DAY && text.take('W')) {
                cron.dayRule = Cron.NEAREST_WORKDAY;
            } else if (field == Cron.WEEKDAY && text.take('L')) {
                cron.dayRule = Cron.LAST_WEEKDAY;
            } else if (field == Cron.WEEKDAY && text.take('#')) {
                cron.dayRule = Cron.NTH_WEEKDAY;
                cron.n = text.number(1, 5);
            } else {
                return false;
            }
            cron.value = value;
            return true;
        }

        private static void addSome(Cron cron, int field, int from, int to, int step) {
            int lowest = Cron.lowest(field);
            int highest = Cron.highest(field);
            int size = highest - lowest + 1;
            int length = to < from ? to - from + size : to - from;
            for (int i = 0; i <= length; i += Math.max(step, 1)) {
                int number = from + i;
                cron.add(field, number > highest ? number - size : number);
            }
        }
    }
}
