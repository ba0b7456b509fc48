import java.util.Arrays;
import java.util.NoSuchElementException;

/**
 * A land that is opened by a run, with claims that are judged by a law, and with lots and bids laid beside it.
 * The words in capitals of ../shared/DOC.md are used here in the same sense.
 */
public final class LandRun {
    public static final int NONE = -1;

    private static final int SIDE = 8;
    private static final int QUARTERS = 64;
    private static final int MOST_WORTH = 99;
    private static final int MOST_ROUGH = 3;
    private static final int MOST_PEOPLE = 30;
    private static final int MOST_KNOWN = 12;
    private static final int MOST_PACE = 9;
    private static final int MOST_AGE = 120;
    private static final int LAST_MINUTE = 9999;
    private static final int MOST_MINUTES_A_CALL = 1000;
    private static final int LAST_DAY = 999;
    private static final int MOST_CLAIMS = 60;
    private static final int MOST_WITNESSES = 200;
    private static final int MOST_PROOF = 9;
    private static final int TAPE_LENGTH = 200;
    private static final int BYTES_A_FEED = 20;
    private static final int BIDDERS = 8;
    private static final int BIDDER_SETS = 256;

    private final Tape tape;
    private final Land country;
    private final People people;
    private final Race race;
    private final Law ruling;
    private final LawReader reader;
    private final Court court;
    private final Auction auction;
    private int today;

    public LandRun() {
        tape = new Tape();
        country = new Land();
        people = new People();
        race = new Race(country, people);
        ruling = new Law();
        reader = new LawReader(tape);
        court = new Court(ruling);
        auction = new Auction(people);
        today = 0;
    }

    public int feed(int a, int b, int c, int d, int e) {
        if (tape.size + BYTES_A_FEED > TAPE_LENGTH) {
            return NONE;
        }
        tape.addNumber(a);
        tape.addNumber(b);
        tape.addNumber(c);
        tape.addNumber(d);
        tape.addNumber(e);
        return tape.size;
    }

    public boolean end(int n) {
        if (n < 0 || n > tape.size) {
            return false;
        }
        tape.size = n;
        return true;
    }

    public boolean land(int q, int worth, int rough) {
        if (race.begun || !isQuarter(q) || !isWithin(worth, 0, MOST_WORTH) || !isWithin(rough, 0, MOST_ROUGH)) {
            return false;
        }
        country.shape(q, worth, rough);
        return true;
    }

    public int person(int from, boolean hid, int pace, int age) {
        boolean open = !race.begun && people.size < MOST_PEOPLE;
        boolean fits = isWithin(from, 0, hid ? QUARTERS - 1 : SIDE - 1)
                && isWithin(pace, 1, MOST_PACE) && isWithin(age, 0, MOST_AGE) && tapeTellsQuarters();
        int number = NONE;
        if (open && fits) {
            number = people.welcome(new Person(from, hid, pace, age, tape.copied(MOST_KNOWN)));
        }
        tape.size = 0;
        return number;
    }

    public int run(int n) {
        if (!isWithin(n, 1, MOST_MINUTES_A_CALL)) {
            return NONE;
        }
        if (!race.begun) {
            race.begin();
        }
        race.goOn(n);
        return race.minute;
    }

    public int runner(int p, int what) throws NoSuchElementException {
        Person one = people.at(p);
        if (one == null) {
            throw new NoSuchElementException("no such one of the people");
        }
        switch (what) {
            case 0:
                return one.place();
            case 1:
                return one.goal;
            case 2:
                return one.stake;
            case 3:
                return one.stakeMinute;
            case 4:
                return Long.bitCount(one.seen);
            case 5:
                return one.hid ? 1 : 0;
            default:
                throw new NoSuchElementException("nothing such is told of a runner");
        }
    }

    public int staked(int q) {
        return country.stakerOf(q);
    }

    public int law() {
        int answer = reader.read();
        if (reader.faultKind == 0) {
            ruling.become(reader.draft);
        }
        tape.size = 0;
        return answer;
    }

    public int fault() {
        return reader.faultKind;
    }

    public boolean wait(int n) {
        if (!isWithin(n, 0, LAST_DAY) || today + n > LAST_DAY) {
            return false;
        }
        today += n;
        return true;
    }

    public int file(int p, int q) {
        Person one = people.at(p);
        if (one == null || !isQuarter(q)) {
            return NONE;
        }
        return court.enter(one, q, today);
    }

    public int witness(int k, int from, int to) {
        if (!isWithin(from, 0, LAST_MINUTE) || !isWithin(to, from, LAST_MINUTE)) {
            return NONE;
        }
        return court.hear(court.claimAt(k), today, from, to);
    }

    public int span(int k, int day, int what) {
        Claim claim = court.claimAt(k);
        if (claim == null || claim.day > day) {
            return NONE;
        }
        claim.reckon(day);
        switch (what) {
            case 0:
                return claim.begin;
            case 1:
                return claim.end;
            case 2:
                return claim.agree;
            case 3:
                return ruling.allows(claim) ? 1 : 0;
            default:
                return NONE;
        }
    }

    public int judge(int q, int day) {
        court.gather(q, day);
        Claim winner = court.winnerBySpans();
        if (winner == null) {
            winner = court.winnerByDoubt();
        }
        return winner == null ? NONE : winner.number;
    }

    public int doubt(int q, int day) {
        court.gather(q, day);
        if (court.gathered == 0) {
            return NONE;
        }
        return court.winnerBySpans() == null ? 1 : 0;
    }

    public int lots() {
        int worths = NONE;
        if (tapeTellsPeople()) {
            worths = people.drawLots(tape, country);
        }
        tape.size = 0;
        return worths;
    }

    public int drawn(int p) {
        Person one = people.at(p);
        return one == null ? NONE : one.take;
    }

    public boolean bid(int p) {
        Person one = people.at(p);
        boolean fits = one != null && one.known.length == tape.size;
        if (fits) {
            tape.copyInto(one.pence);
        }
        tape.size = 0;
        return fits;
    }

    public int sell() {
        return auction.settle();
    }

    public int bought(int p) {
        Person one = people.at(p);
        return one == null ? NONE : one.gain;
    }

    public int count(int what) {
        switch (what) {
            case 0:
                return race.minute;
            case 1:
                return people.size;
            case 2:
                return country.stakes;
            case 3:
                return today;
            case 4:
                return court.claimCount;
            case 5:
                return court.witnessCount;
            case 6:
                return ruling.rules;
            case 7:
                return tape.size;
            default:
                return NONE;
        }
    }

    private static boolean isWithin(int number, int least, int most) {
        return number >= least && number <= most;
    }

    private static boolean isQuarter(int q) {
        return isWithin(q, 0, QUARTERS - 1);
    }

    private boolean tapeTellsQuarters() {
        return tape.size <= MOST_KNOWN && tape.tellsEachOnce(QUARTERS);
    }

    private boolean tapeTellsPeople() {
        return tape.tellsEachOnce(people.size);
    }

    /** The bytes that the next call reads. */
    private static final class Tape {
        final int[] bytes = new int[TAPE_LENGTH];
        int size = 0;

        void addNumber(int number) {
            for (int shift = 24; shift >= 0; shift -= 8) {
                addByte(number >>> shift & 255);
            }
        }

        void addByte(int value) {
            if (size >= 0 && size < bytes.length) {
                bytes[size] = value;
                size++;
            }
        }

        /** NONE behind the last byte, so that a reader needs no look at the size. */
        int at(int i) {
            return i >= 0 && i < size && i < bytes.length ? bytes[i] : NONE;
        }

        void copyInto(int[] row) {
            for (int i = 0; i < row.length; i++) {
                row[i] = at(i);
            }
        }

        int[] copied(int limit) {
            return Arrays.copyOf(bytes, Math.max(0, Math.min(size, limit)));
        }

        /** A long has a bit for each number, since a limit is never above 64. */
        boolean tellsEachOnce(int limit) {
            long told = 0;
            for (int i = 0; i < size; i++) {
                int number = at(i);
                if (!isWithin(number, 0, limit - 1) || (told >>> number & 1) != 0) {
                    return false;
                }
                told |= 1L << number;
            }
            return true;
        }
    }

    /** The quarters. */
    private static final class Land {
        final int[] worths = new int[QUARTERS];
        final int[] roughs = new int[QUARTERS];
        final Person[] stakers = new Person[QUARTERS];
        int stakes = 0;

        void shape(int q, int worth, int rough) {
            if (q >= 0 && q < worths.length && q < roughs.length) {
                worths[q] = worth;
                roughs[q] = rough;
            }
        }

        int worthOf(int q) {
            return q >= 0 && q < worths.length ? worths[q] : 0;
        }

        int roughOf(int q) {
            return q >= 0 && q < roughs.length ? roughs[q] : 0;
        }

        int stakerOf(int q) {
            Person staker = q >= 0 && q < stakers.length ? stakers[q] : null;
            return staker == null ? NONE : staker.number;
        }

        void markStaked(int q, Person staker) {
            if (q >= 0 && q < stakers.length) {
                stakers[q] = staker;
                stakes++;
            }
        }
    }

    /** One of the people, with what one knows of, where one is, and what one bids. */
    private static final class Person {
        int number = NONE;
        final boolean hid;
        final int pace;
        final int age;
        final int[] known;
        final int[] pence;
        int row;
        int column;
        int goal = NONE;
        int due = 0;
        int stake = NONE;
        int stakeMinute = NONE;
        long seen = 0;
        int take = NONE;
        int gain = NONE;

        Person(int from, boolean hid, int pace, int age, int[] known) {
            this.hid = hid;
            this.pace = pace;
            this.age = age;
            this.known = known;
            pence = new int[known.length];
            row = hid ? Math.floorDiv(from, SIDE) : from;
            column = hid ? Math.floorMod(from, SIDE) : NONE;
        }

        int place() {
            return column < 0 ? NONE : row * SIDE + column;
        }

        boolean hasSeen(int q) {
            return (seen >>> q & 1) != 0;
        }

        void see(int q) {
            seen |= 1L << q;
        }

        int distanceTo(int q) {
            return Math.abs(q / SIDE - row) + Math.abs(q % SIDE - column);
        }

        /** The quarter next on the way to the goal: the column is set right ahead of the row. */
        int nextOnWay() {
            int columnStep = Integer.compare(goal % SIDE, column);
            if (columnStep != 0) {
                return row * SIDE + column + columnStep;
            }
            return (row + Integer.compare(goal / SIDE, row)) * SIDE + column;
        }

        void moveTo(int q) {
            row = q / SIDE;
            column = q % SIDE;
        }

        int bestUnseen(Land land) {
            int best = NONE;
            for (int i = 0; i < known.length; i++) {
                int q = known[i];
                if (!hasSeen(q) && (best == NONE || prefers(q, best, land))) {
                    best = q;
                }
            }
            return best;
        }

        boolean prefers(int q, int other, Land land) {
            if (land.worthOf(q) != land.worthOf(other)) {
                return land.worthOf(q) > land.worthOf(other);
            }
            if (distanceTo(q) != distanceTo(other)) {
                return distanceTo(q) < distanceTo(other);
            }
            return q < other;
        }

        int bestFree(Land land, long taken) {
            int best = NONE;
            for (int i = 0; i < known.length; i++) {
                int q = known[i];
                boolean free = (taken >>> q & 1) == 0;
                if (free && (best == NONE || land.worthOf(q) > land.worthOf(best)
                        || land.worthOf(q) == land.worthOf(best) && q < best)) {
                    best = q;
                }
            }
            return best;
        }

        int penceFor(int q) {
            for (int i = 0; i < known.length && i < pence.length; i++) {
                if (known[i] == q) {
                    return pence[i];
                }
            }
            return 0;
        }

        /** How many of the known quarters have a lesser number. */
        int rankOf(int q) {
            int lesser = 0;
            for (int i = 0; i < known.length; i++) {
                if (known[i] < q) {
                    lesser++;
                }
            }
            return lesser;
        }

        int knownOfRank(int rank) {
            for (int i = 0; i < known.length; i++) {
                if (rankOf(known[i]) == rank) {
                    return known[i];
                }
            }
            return NONE;
        }
    }

    private static final class People {
        final Person[] all = new Person[MOST_PEOPLE];
        int size = 0;

        Person at(int p) {
            return p >= 0 && p < size && p < all.length ? all[p] : null;
        }

        int welcome(Person one) {
            if (size < 0 || size >= all.length) {
                return NONE;
            }
            one.number = size;
            all[size] = one;
            size++;
            return one.number;
        }

        /** The order has been looked at: it tells people of these alone, each once. */
        int drawLots(Tape order, Land land) {
            for (int p = 0; p < size; p++) {
                Person one = at(p);
                if (one != null) {
                    one.take = NONE;
                }
            }
            long taken = 0;
            int worths = 0;
            for (int i = 0; i < order.size; i++) {
                Person one = at(order.at(i));
                if (one != null) {
                    one.take = one.bestFree(land, taken);
                    worths += land.worthOf(one.take);
                    taken |= one.take == NONE ? 0 : 1L << one.take;
                }
            }
            return worths;
        }
    }

    /** The run, minute by minute. */
    private static final class Race {
        final Land land;
        final People people;
        boolean begun = false;
        int minute = 0;

        Race(Land land, People people) {
            this.land = land;
            this.people = people;
        }

        void begin() {
            begun = true;
            for (int p = 0; p < people.size; p++) {
                Person one = people.at(p);
                if (one != null) {
                    chooseGoal(one);
                }
            }
        }

        void goOn(int minutes) {
            int last = Math.min(minute + minutes, LAST_MINUTE);
            for (int i = 0; i < minutes && minute < last; i++) {
                minute = nextArrival(last);
                for (int p = 0; p < people.size; p++) {
                    Person one = people.at(p);
                    if (one != null && one.goal != NONE && one.due == minute) {
                        arrive(one);
                    }
                }
            }
        }

        /** Nothing changes in the minutes in which nobody comes into a quarter, so they are leapt over. */
        int nextArrival(int last) {
            int next = last;
            for (int p = 0; p < people.size; p++) {
                Person one = people.at(p);
                if (one != null && one.goal != NONE && one.due > minute) {
                    next = Math.min(next, one.due);
                }
            }
            return next;
        }

        void arrive(Person one) {
            int q = one.nextOnWay();
            one.moveTo(q);
            boolean free = land.stakerOf(q) == NONE;
            if (!free) {
                one.see(q);
            }
            if (q != one.goal) {
                setOff(one);
            } else if (free) {
                putStake(one, q);
            } else {
                chooseGoal(one);
            }
        }

        /** Each turn that does not leave adds one to what is seen, so one more than the known ones is enough. */
        void chooseGoal(Person one) {
            for (int turn = 0; turn <= MOST_KNOWN; turn++) {
                int q = one.bestUnseen(land);
                one.goal = q;
                if (q == NONE) {
                    return;
                }
                if (q != one.place()) {
                    setOff(one);
                    return;
                }
                if (land.stakerOf(q) == NONE) {
                    putStake(one, q);
                    return;
                }
                one.see(q);
            }
        }

        void setOff(Person one) {
            one.due = minute + one.pace * (1 + land.roughOf(one.nextOnWay()));
        }

        void putStake(Person one, int q) {
            land.markStaked(q, one);
            one.stake = q;
            one.stakeMinute = minute;
            one.goal = NONE;
        }
    }

    /** What a text tells, or what holds where it tells nothing. */
    private static final class Law {
        static final int FILED = 0;
        static final int YOUNG = 1;
        static final int NOBODY = 2;

        int age = 0;
        boolean barred = false;
        int proof = 0;
        int days = LAST_DAY;
        int doubtWay = NOBODY;
        int rules = 0;

        void forget() {
            age = 0;
            barred = false;
            proof = 0;
            days = LAST_DAY;
            doubtWay = NOBODY;
            rules = 0;
        }

        void become(Law other) {
            age = other.age;
            barred = other.barred;
            proof = other.proof;
            days = other.days;
            doubtWay = other.doubtWay;
            rules = other.rules;
        }

        /** The claim has been reckoned as of the day that is asked for. */
        boolean allows(Claim claim) {
            return claim.by.age >= age && !(claim.by.hid && barred)
                    && claim.agree >= proof && claim.late <= days;
        }
    }

    /** Reads the tape as the text of a law, token by token, up to the first fault. */
    private static final class LawReader {
        static final int NO_TOKEN = 0;
        static final int WORD = 1;
        static final int NUMBER = 2;
        static final int SEMICOLON = 3;
        static final int END = 4;

        static final int WANTS_RULE = 0;
        static final int WANTS_VALUE = 1;
        static final int WANTS_SEMICOLON = 2;

        static final int AGE = 0;
        static final int HIDDEN = 1;
        static final int PROOF = 2;
        static final int DAYS = 3;
        static final int DOUBT = 4;

        static final int FAULT_NO_TOKEN = 1;
        static final int FAULT_CANNOT_COME = 2;
        static final int FAULT_NUMBER = 3;
        static final int FAULT_TWICE = 4;

        static final int MOST_DIGITS = 3;

        final Tape tape;
        final Law draft = new Law();
        int faultKind = 0;
        int place = 0;
        int start = 0;
        int token = END;
        int wants = WANTS_RULE;
        int rule = NONE;
        int told = 0;

        LawReader(Tape tape) {
            this.tape = tape;
        }

        /** How many rules; -1 - the place of the fault. */
        int read() {
            draft.forget();
            place = 0;
            wants = WANTS_RULE;
            told = 0;
            faultKind = 0;
            token = NO_TOKEN;
            for (int i = 0; i <= tape.size && token != END; i++) {
                nextToken();
                faultKind = takeToken();
                if (faultKind != 0) {
                    return -1 - start;
                }
            }
            return draft.rules;
        }

        void nextToken() {
            skipBlanks();
            start = place;
            int first = tape.at(start);
            if (first == NONE) {
                token = END;
            } else if (isLetter(first) || isDigit(first)) {
                token = wordOrNumber();
            } else {
                place++;
                token = first == ';' ? SEMICOLON : NO_TOKEN;
            }
        }

        void skipBlanks() {
            while (place < tape.size && (tape.at(place) == ' ' || tape.at(place) == '\n')) {
                place++;
            }
        }

        int wordOrNumber() {
            int letters = 0;
            int digits = 0;
            while (place < tape.size && (isLetter(tape.at(place)) || isDigit(tape.at(place)))) {
                if (isDigit(tape.at(place))) {
                    digits++;
                } else {
                    letters++;
                }
                place++;
            }
            if (digits == 0) {
                return WORD;
            }
            return letters == 0 && digits <= MOST_DIGITS ? NUMBER : NO_TOKEN;
        }

        static boolean isLetter(int sign) {
            return sign >= 'a' && sign <= 'z';
        }

        static boolean isDigit(int sign) {
            return sign >= '0' && sign <= '9';
        }

        /** The kind of the token's fault, 0 without one. */
        int takeToken() {
            if (token == NO_TOKEN) {
                return FAULT_NO_TOKEN;
            }
            switch (wants) {
                case WANTS_RULE:
                    return token == END ? 0 : takeRule();
                case WANTS_VALUE:
                    return rule == HIDDEN || rule == DOUBT ? takeChoice() : takeNumber();
                default:
                    return takeSemicolon();
            }
        }

        int takeRule() {
            rule = ruleTold();
            if (rule == NONE) {
                return FAULT_CANNOT_COME;
            }
            if ((told >>> rule & 1) != 0) {
                return FAULT_TWICE;
            }
            told |= 1 << rule;
            wants = WANTS_VALUE;
            return 0;
        }

        int ruleTold() {
            if (isWord("age")) {
                return AGE;
            }
            if (isWord("hidden")) {
                return HIDDEN;
            }
            if (isWord("proof")) {
                return PROOF;
            }
            if (isWord("days")) {
                return DAYS;
            }
            return isWord("doubt") ? DOUBT : NONE;
        }

        boolean isWord(String word) {
            if (token != WORD || place - start != word.length()) {
                return false;
            }
            for (int i = 0; i < word.length(); i++) {
                if (tape.at(start + i) != word.charAt(i)) {
                    return false;
                }
            }
            return true;
        }

        int takeNumber() {
            if (token != NUMBER) {
                return FAULT_CANNOT_COME;
            }
            int number = 0;
            for (int i = start; i < place; i++) {
                number = number * 10 + (tape.at(i) - '0');
            }
            if (number > mostOfRule()) {
                return FAULT_NUMBER;
            }
            if (rule == AGE) {
                draft.age = number;
            } else if (rule == PROOF) {
                draft.proof = number;
            } else {
                draft.days = number;
            }
            wants = WANTS_SEMICOLON;
            return 0;
        }

        int mostOfRule() {
            if (rule == AGE) {
                return MOST_AGE;
            }
            return rule == PROOF ? MOST_PROOF : LAST_DAY;
        }

        int takeChoice() {
            if (rule == HIDDEN && isWord("barred")) {
                draft.barred = true;
            } else if (rule == HIDDEN && isWord("heard")) {
                draft.barred = false;
            } else if (rule == DOUBT && isWord("filed")) {
                draft.doubtWay = Law.FILED;
            } else if (rule == DOUBT && isWord("young")) {
                draft.doubtWay = Law.YOUNG;
            } else if (rule == DOUBT && isWord("nobody")) {
                draft.doubtWay = Law.NOBODY;
            } else {
                return FAULT_CANNOT_COME;
            }
            wants = WANTS_SEMICOLON;
            return 0;
        }

        int takeSemicolon() {
            if (token != SEMICOLON) {
                return FAULT_CANNOT_COME;
            }
            draft.rules++;
            wants = WANTS_RULE;
            return 0;
        }
    }

    /** A witness of a claim, chained to those of the same claim who came ahead. */
    private static final class Witness {
        final int day;
        final int from;
        final int to;
        final Witness earlier;

        Witness(int day, int from, int to, Witness earlier) {
            this.day = day;
            this.from = from;
            this.to = to;
            this.earlier = earlier;
        }

        boolean tells(int minute, int asOf) {
            return day <= asOf && from <= minute && minute <= to;
        }
    }

    private static final class Claim {
        final int number;
        final Person by;
        final int quarter;
        final int day;
        /** How many days behind the first claim to the quarter; no later call can change that. */
        final int late;
        Witness latest = null;
        int witnesses = 0;
        int begin = 0;
        int end = LAST_MINUTE;
        int agree = 0;

        Claim(int number, Person by, int quarter, int day, int late) {
            this.number = number;
            this.by = by;
            this.quarter = quarter;
            this.day = day;
            this.late = late;
        }

        /** Most agree for the first time when one of them begins, so no other minute is looked at. */
        void reckon(int asOf) {
            begin = 0;
            end = LAST_MINUTE;
            agree = 0;
            for (Witness one = latest; one != null; one = one.earlier) {
                if (one.day <= asOf) {
                    int many = agreeOn(one.from, asOf);
                    if (many > agree || many == agree && one.from < begin) {
                        agree = many;
                        begin = one.from;
                    }
                }
            }
            findEnd(asOf);
        }

        int agreeOn(int minute, int asOf) {
            int many = 0;
            for (Witness one = latest; one != null; one = one.earlier) {
                if (one.tells(minute, asOf)) {
                    many++;
                }
            }
            return many;
        }

        /** Nobody can join those who agree, as they are the most: the first of them to end is the span's end. */
        void findEnd(int asOf) {
            for (Witness one = latest; one != null; one = one.earlier) {
                if (one.tells(begin, asOf)) {
                    end = Math.min(end, one.to);
                }
            }
        }

        boolean isAheadOf(Claim other) {
            return end < other.begin;
        }
    }

    /** The claims, and the lawful ones of the quarter that is judged. */
    private static final class Court {
        final Law ruling;
        final Claim[] claims = new Claim[MOST_CLAIMS];
        final Claim[] lawful = new Claim[MOST_CLAIMS];
        int claimCount = 0;
        int witnessCount = 0;
        int gathered = 0;

        Court(Law ruling) {
            this.ruling = ruling;
        }

        Claim claimAt(int k) {
            return k >= 0 && k < claimCount && k < claims.length ? claims[k] : null;
        }

        int enter(Person by, int q, int day) {
            if (claimCount < 0 || claimCount >= claims.length) {
                return NONE;
            }
            int firstDay = day;
            for (int k = claimCount - 1; k >= 0; k--) {
                Claim claim = claimAt(k);
                if (claim != null && claim.quarter == q) {
                    if (claim.by.number == by.number) {
                        return NONE;
                    }
                    firstDay = claim.day;
                }
            }
            int number = claimCount;
            claims[number] = new Claim(number, by, q, day, day - firstDay);
            claimCount++;
            return number;
        }

        int hear(Claim claim, int day, int from, int to) {
            if (claim == null || witnessCount >= MOST_WITNESSES) {
                return NONE;
            }
            claim.latest = new Witness(day, from, to, claim.latest);
            claim.witnesses++;
            witnessCount++;
            return claim.witnesses;
        }

        void gather(int q, int asOf) {
            gathered = 0;
            for (int k = 0; k < claimCount; k++) {
                Claim claim = claimAt(k);
                if (claim != null && claim.quarter == q && claim.day <= asOf) {
                    claim.reckon(asOf);
                    if (ruling.allows(claim)) {
                        addLawful(claim);
                    }
                }
            }
        }

        void addLawful(Claim claim) {
            if (gathered >= 0 && gathered < lawful.length) {
                lawful[gathered] = claim;
                gathered++;
            }
        }

        Claim lawfulAt(int i) {
            return i >= 0 && i < gathered && i < lawful.length ? lawful[i] : null;
        }

        Claim winnerBySpans() {
            for (int i = 0; i < gathered; i++) {
                Claim claim = lawfulAt(i);
                if (claim != null && isAheadOfAll(claim)) {
                    return claim;
                }
            }
            return null;
        }

        boolean isAheadOfAll(Claim claim) {
            for (int i = 0; i < gathered; i++) {
                Claim other = lawfulAt(i);
                if (other != null && other.number != claim.number && !claim.isAheadOf(other)) {
                    return false;
                }
            }
            return true;
        }

        boolean isBehindAny(Claim claim) {
            for (int i = 0; i < gathered; i++) {
                Claim other = lawfulAt(i);
                if (other != null && other.number != claim.number && other.isAheadOf(claim)) {
                    return true;
                }
            }
            return false;
        }

        /** Claims are gathered by rising number, and so by rising day: a later one must be better to win. */
        Claim winnerByDoubt() {
            Claim winner = null;
            for (int i = 0; i < gathered && ruling.doubtWay != Law.NOBODY; i++) {
                Claim claim = lawfulAt(i);
                if (claim != null && !isBehindAny(claim)) {
                    boolean younger = ruling.doubtWay == Law.YOUNG && winner != null && claim.by.age < winner.by.age;
                    if (winner == null || younger) {
                        winner = claim;
                    }
                }
            }
            return winner;
        }
    }

    /**
     * Opens the land by bids. A bid weighs its pence times 13^8, and behind that a digit to the base 13 in its
     * bidder's place: 12 for the least quarter known, less for each next one, 0 for none. So the heaviest choice is
     * the one with the most pence and, of like ones, the first, and the weight's digits tell who has which quarter.
     */
    private static final class Auction {
        static final long BASE = 13;
        private static final long[] POWERS = {
            62748517L, 4826809L, 371293L, 28561L, 2197L, 169L, 13L, 1L
        };
        static final long PENNY = 815730721L;

        final People people;
        final long[] heaviest = new long[BIDDER_SETS];
        final long[] weights = new long[BIDDERS];

        Auction(People people) {
            this.people = people;
        }

        int settle() {
            int all = (1 << Math.min(people.size, BIDDERS)) - 1;
            for (int set = 0; set < heaviest.length; set++) {
                heaviest[set] = 0;
            }
            for (int q = 0; q < QUARTERS; q++) {
                if (weigh(q)) {
                    offer(all);
                }
            }
            long total = all >= 0 && all < heaviest.length ? heaviest[all] : 0;
            tellGains(total % PENNY);
            return (int) (total / PENNY);
        }

        /** Sets what each bidder's bid for the quarter weighs, 0 without one: whether there is any. */
        boolean weigh(int q) {
            boolean any = false;
            for (int p = 0; p < weights.length && p < POWERS.length; p++) {
                weights[p] = 0;
                Person one = people.at(p);
                if (one != null && one.penceFor(q) > 0) {
                    weights[p] = one.penceFor(q) * PENNY + (MOST_KNOWN - one.rankOf(q)) * POWERS[p];
                    any = true;
                }
            }
            return any;
        }

        /** Falling sets, so that a lesser set is still without this quarter when it is looked at. */
        void offer(int all) {
            for (int set = Math.min(all, heaviest.length - 1); set > 0; set--) {
                for (int p = 0; p < weights.length; p++) {
                    int without = set & ~(1 << p);
                    if (without != set && weights[p] > 0) {
                        heaviest[set] = Math.max(heaviest[set], heaviest[without] + weights[p]);
                    }
                }
            }
        }

        void tellGains(long digits) {
            long rest = digits;
            for (int p = BIDDERS - 1; p >= 0; p--) {
                int digit = (int) (rest % BASE);
                rest /= BASE;
                Person one = people.at(p);
                if (one != null) {
                    one.gain = digit == 0 ? NONE : one.knownOfRank(MOST_KNOWN - digit);
                }
            }
        }
    }
}
