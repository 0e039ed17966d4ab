import java.util.ArrayList;
import java.util.Arrays;

/**
 * A board of a land at war: orders in force by weeks, cloths, chairs, makers, shops, points and dockets.
 * The words in capitals are those of the document.
 */
public final class UtilityBoard {
    /** There is none. */
    public static final int NONE = -1;

    private static final int LAST_WEEK = 499;
    private static final int MOST_KEPT = 1000000;
    private static final int MOST_CALLS = 512;
    private static final int MOST_CLOTHS = 20;
    private static final int MOST_DRAWINGS = 22;
    private static final int MOST_THINGS = 30;
    private static final int MOST_MAKERS = 12;
    private static final int MOST_TOLD_MAKERS = 8;
    private static final int MOST_ORDERS = 30;
    private static final int MOST_PERSONS = 40;
    private static final int MOST_DOCKETS = 60;
    private static final int MOST_SEEN = 100;
    private static final int MOST_RUBBED = 100;
    private static final int MOST_TAPE = 400;
    private static final int MOST_TEXT = 160;
    private static final int LAST_TOWN = 7;
    private static final int COAT = 0;
    private static final int CHAIR = 1;
    private static final int OTHER = 2;
    private static final int INCHES_A_YARD = 36;
    private static final int MOST_WEIGHT = 99;
    private static final int NO_LOSS_TOLD = -1000000000;
    private static final String ASKED_LETTERS = "pcgdmb";

    private int now = 0;
    private int turnsAWeek = 50;
    private final ArrayList<Cloth> cloths = new ArrayList<Cloth>();
    private final ArrayList<Drawing> drawings = new ArrayList<Drawing>();
    private final ArrayList<Thing> things = new ArrayList<Thing>();
    private final ArrayList<Maker> makers = new ArrayList<Maker>();
    private final int[] byRate = new int[MOST_MAKERS];
    private final ArrayList<Person> persons = new ArrayList<Person>();
    private final ArrayList<Docket> dockets = new ArrayList<Docket>();
    private final ArrayList<Entry> seenOnes = new ArrayList<Entry>();
    private final ArrayList<Entry> rubbedOnes = new ArrayList<Entry>();
    private final ArrayList<Entry> marks = new ArrayList<Entry>();
    private final byte[] tape = new byte[MOST_TAPE];
    private int taped = 0;
    private final Reader reader = new Reader();
    private final Law law = new Law();
    private final Layout layout = new Layout();

    public UtilityBoard() {
    }

    // ---- weeks, cloths, drawings

    public int goes() {
        if (now >= LAST_WEEK) {
            return NONE;
        }
        now++;
        int gets = Math.max(0, askNow('g', null, null));
        for (int i = 0; i < persons.size(); i++) {
            Person person = persons.get(i);
            person.points = Math.min(MOST_KEPT, person.points + gets);
        }
        for (int i = 0; i < makers.size(); i++) {
            makers.get(i).made = 0;
        }
        return now;
    }

    public int cloth(int number, int wear, int cost) {
        if (!within(number, 100, 999) || !within(wear, 1, 1000) || !within(cost, 1, 10000)) {
            return NONE;
        }
        if (cloths.size() >= MOST_CLOTHS || isTaken(number)) {
            return NONE;
        }
        cloths.add(new Cloth(number, wear, cost));
        return cloths.size() - 1;
    }

    public int drawing(int joints) {
        if (!within(joints, 2, 8) || drawings.size() >= MOST_DRAWINGS) {
            return NONE;
        }
        drawings.add(new Drawing(joints));
        return drawings.size() - 1;
    }

    public int stick(int d, int a, int b, int timber) {
        Drawing drawing = findDrawing(d);
        return drawing == null ? NONE : drawing.addStick(a, b, timber);
    }

    public boolean load(int d, int joint, int pounds) {
        Drawing drawing = findDrawing(d);
        return drawing != null && drawing.addLoad(joint, pounds);
    }

    public int bears(int d) {
        Drawing drawing = findDrawing(d);
        if (drawing == null) {
            return NONE;
        }
        return drawing.holdsUp() ? 1 : 0;
    }

    public int cheapest(int d, int what) {
        Drawing drawing = findDrawing(d);
        if (drawing == null || !within(what, NONE, drawing.sticks - 1)) {
            return NONE;
        }
        int inches = drawing.fewestInches();
        return what == NONE || inches == NONE ? inches : drawing.best[what];
    }

    // ---- things and their patterns

    public int thing(int kind, int of, int pockets, int inches) {
        if (!isMadeOf(kind, of) || !within(pockets, 0, 9) || !within(inches, 1, 10000)) {
            return NONE;
        }
        if (things.size() >= MOST_THINGS) {
            return NONE;
        }
        Cloth cloth = kind == COAT ? findCloth(of) : null;
        things.add(new Thing(kind, of, cloth, pockets, inches));
        return things.size() - 1;
    }

    public int piece(int x, int length, int width) {
        Thing coat = findCoat(x);
        return coat == null ? NONE : coat.addPiece(length, width);
    }

    public int laid(int x, int width, int n) {
        Thing coat = findCoat(x);
        if (coat == null || !within(width, 1, 200) || !within(n, 0, taped)) {
            return NONE;
        }
        taped = 0;
        if (!layout.isWholeOrder(coat, tape, n) || coat.widest() > width) {
            return -2;
        }
        return layout.lengthOf(coat, width, tape);
    }

    public int least(int x, int width, int what) {
        Thing coat = findCoat(x);
        if (coat == null || !within(width, 1, 200) || !within(what, NONE, coat.pieces - 1)) {
            return NONE;
        }
        if (coat.widest() > width) {
            return NONE;
        }
        layout.search(coat, width);
        return what == NONE ? layout.shortest : layout.row[what];
    }

    // ---- makers

    public int maker(int town, int plant, int hands, int rate, int hire) {
        if (!within(town, 0, LAST_TOWN) || !within(plant, 1, 10000) || !within(hands, 0, 1000)) {
            return NONE;
        }
        if (!within(rate, 1, 100) || !within(hire, 0, 10000) || makers.size() >= MOST_MAKERS) {
            return NONE;
        }
        makers.add(new Maker(town, plant, hands, rate, hire));
        putByRate(makers.size() - 1, rate);
        return makers.size() - 1;
    }

    public boolean named(int m, boolean is) {
        Maker maker = findMaker(m);
        if (maker == null || maker.named == is) {
            return false;
        }
        maker.named = is;
        return true;
    }

    public int yards(int m, int cloth, int n) {
        Maker maker = findMaker(m);
        if (maker == null || findCloth(cloth) == null || !within(n, 1, 10000)) {
            return NONE;
        }
        if (maker.yards[cloth] + n > MOST_KEPT) {
            return NONE;
        }
        maker.yards[cloth] += n;
        return maker.yards[cloth];
    }

    // ---- the tape and the orders

    public int feed(int a, int b, int c, int d, int e) {
        if (taped + 20 > MOST_TAPE) {
            return NONE;
        }
        putOnTape(a);
        putOnTape(b);
        putOnTape(c);
        putOnTape(d);
        putOnTape(e);
        return taped;
    }

    public int order(int from, int to, int n) {
        if (!within(from, 0, LAST_WEEK) || !within(to, from, LAST_WEEK) || !within(n, 1, MOST_TEXT)) {
            return NONE;
        }
        if (law.orders.size() >= MOST_ORDERS || n > taped) {
            return NONE;
        }
        taped = 0;
        int fault = reader.read(tape, n);
        if (fault != 0) {
            return fault;
        }
        law.orders.add(new Order(from, to, now, reader));
        return law.orders.size() - 1;
    }

    public int number(int which, int x, int m, int week, int t) {
        if (!within(which, 0, 5) || !within(week, 0, LAST_WEEK) || !within(t, 0, LAST_WEEK)) {
            return NONE;
        }
        char letter = ASKED_LETTERS.charAt(which);
        Thing thing = findThing(x);
        Maker maker = findMaker(m);
        boolean fits = letter == 'g' ? x == NONE && m == NONE : thing != null && (maker != null || m == NONE);
        if (!fits) {
            return NONE;
        }
        law.weigh(week, t, NONE);
        law.setLetters(week, thing, maker);
        int last = law.lastNumber(letter);
        if (letter == 'm' || letter == 'b') {
            return last == NONE ? 0 : 1;
        }
        return letter == 'c' ? last : Math.max(0, last);
    }

    public int why(int x, int m, int what) {
        Thing thing = findThing(x);
        Maker maker = findMaker(m);
        if (thing == null || maker == null || !within(what, 0, 1)) {
            return NONE;
        }
        law.weigh(now, now, NONE);
        law.setLetters(now, thing, maker);
        return law.lowestBar(what == 0);
    }

    // ---- making and buying

    public int makes(int m, int x, int n, boolean marked) {
        Maker maker = findMaker(m);
        Thing thing = findThing(x);
        if (maker == null || thing == null || !within(n, 1, 10000)) {
            return NONE;
        }
        int mark = marked ? 1 : 0;
        if (thing.shops[mark] + n > MOST_KEPT || marks.size() >= MOST_CALLS) {
            return NONE;
        }
        int refusal = whyNotMade(maker, thing, n, marked);
        if (refusal != 0) {
            return refusal;
        }
        if (thing.kind == COAT) {
            maker.yards[thing.of] -= yardsFor(thing, n);
        }
        maker.made += n;
        thing.shops[mark] += n;
        if (marked) {
            marks.add(new Entry(x, m, now, n));
        }
        return thing.shops[0] + thing.shops[1];
    }

    public int person(int purse) {
        if (!within(purse, 0, MOST_KEPT) || persons.size() >= MOST_PERSONS) {
            return NONE;
        }
        persons.add(new Person(purse));
        return persons.size() - 1;
    }

    public boolean price(int x, int farthings) {
        Thing thing = findThing(x);
        if (thing == null || !within(farthings, 1, 100000)) {
            return false;
        }
        thing.price = farthings;
        return true;
    }

    public int buys(int o, int x, boolean marked) {
        Person person = findPerson(o);
        Thing thing = findThing(x);
        if (person == null || thing == null || marks.size() >= MOST_CALLS) {
            return NONE;
        }
        int mark = marked ? 1 : 0;
        if (thing.shops[mark] == 0) {
            return -2;
        }
        int points = Math.max(0, askNow('p', thing, null));
        if (person.points < points) {
            return -3;
        }
        int paid = paidNow(thing);
        if (person.purse < paid) {
            return -4;
        }
        person.points -= points;
        person.purse -= paid;
        thing.shops[mark]--;
        if (marked) {
            marks.add(new Entry(x, NONE, now, 1));
        }
        closeDockets(o, x);
        return paid;
    }

    public int gone(int x, int n) {
        Thing thing = findThing(x);
        if (thing == null || !within(n, 1, 100000)) {
            return NONE;
        }
        int there = thing.shops[0] + thing.shops[1];
        return there == 0 ? NONE : now + roundedUp(there, n) - 1;
    }

    // ---- dockets

    public int docket(int o, int x, int since, int weight) {
        if (findPerson(o) == null || findThing(x) == null || !within(since, 0, now)) {
            return NONE;
        }
        if (!within(weight, 0, MOST_WEIGHT) || dockets.size() >= MOST_DOCKETS) {
            return NONE;
        }
        dockets.add(new Docket(o, x, since, weight));
        return dockets.size() - 1;
    }

    public int first(int x, int i) {
        for (int k = 0; k < dockets.size(); k++) {
            Docket docket = dockets.get(k);
            if (docket.open && docket.thing == x && howManyBefore(k) == i) {
                return k;
            }
        }
        return NONE;
    }

    public int waits(int k, int n) {
        if (!within(k, 0, dockets.size() - 1) || !within(n, 1, 100)) {
            return NONE;
        }
        return dockets.get(k).open ? howManyBefore(k) / n : NONE;
    }

    public int bombed(int o) {
        if (findPerson(o) == null) {
            return NONE;
        }
        int changed = 0;
        for (int k = 0; k < dockets.size(); k++) {
            Docket docket = dockets.get(k);
            if (docket.open && docket.person == o && docket.weight != MOST_WEIGHT) {
                docket.weight = MOST_WEIGHT;
                changed++;
            }
        }
        return changed;
    }

    // ---- marks that are false, cloth that is true

    public boolean seen(int x, int week, int n) {
        if (findThing(x) == null || !within(week, 0, now) || !within(n, 1, 100000)) {
            return false;
        }
        if (seenOnes.size() >= MOST_SEEN) {
            return false;
        }
        seenOnes.add(new Entry(x, NONE, week, n));
        return true;
    }

    public int falsely(int x) {
        if (findThing(x) == null) {
            return NONE;
        }
        int most = 0;
        for (int i = 0; i < seenOnes.size(); i++) {
            Entry one = seenOnes.get(i);
            if (one.of == x) {
                most = Math.max(most, one.n - trulyMarked(x, one.week));
            }
        }
        return most;
    }

    public boolean rubbed(int cloth, int turns, boolean tore) {
        if (findCloth(cloth) == null || !within(turns, 1, 100000) || rubbedOnes.size() >= MOST_RUBBED) {
            return false;
        }
        rubbedOnes.add(new Entry(cloth, tore ? 1 : 0, now, turns));
        return true;
    }

    public boolean bench(int n) {
        if (!within(n, 1, 1000)) {
            return false;
        }
        turnsAWeek = n;
        return true;
    }

    public int isTrue(int cloth, int t) {
        Cloth asked = findCloth(cloth);
        if (asked == null || !within(t, 0, LAST_WEEK)) {
            return NONE;
        }
        int whole = asked.wear * turnsAWeek;
        int leastTurns = whole - whole / 10;
        int known = 0;
        int enough = 0;
        for (int i = 0; i < rubbedOnes.size(); i++) {
            Entry one = rubbedOnes.get(i);
            if (one.of == cloth && one.week <= t) {
                known++;
                if (one.n >= leastTurns) {
                    enough++;
                } else if (one.by == 1) {
                    return 0;
                }
            }
        }
        return known >= 2 && enough == known ? 1 : 2;
    }

    // ---- makers put together

    public int needs(int told, int set, int pieces) {
        if (!mayBeTold(told) || set == 0 || (set & ~told) != 0 || !within(pieces, 1, 100000)) {
            return NONE;
        }
        return handsToDo(told, set, pieces);
    }

    public int fewest(int told, int pieces, int town) {
        if (!mayBeTold(told) || !within(pieces, 1, 100000) || !within(town, NONE, LAST_TOWN)) {
            return NONE;
        }
        int best = NONE;
        int bestHands = 0;
        for (int set = 1; set <= told; set++) {
            if ((set & ~told) == 0 && (town == NONE || isInTown(set, town))) {
                int hands = handsToDo(told, set, pieces);
                if (hands >= 0 && (best == NONE || hands < bestHands
                        || hands == bestHands && Integer.bitCount(set) < Integer.bitCount(best))) {
                    best = set;
                    bestHands = hands;
                }
            }
        }
        return best;
    }

    // ---- who loses, what would be, what is told right

    public int loses(int m, int x) {
        Maker maker = findMaker(m);
        Thing thing = findThing(x);
        if (maker == null || thing == null) {
            return NO_LOSS_TOLD;
        }
        int paid = paidNow(thing);
        int margin = paid * Math.max(0, askNow('d', thing, null)) / 100;
        return thing.stuffCost() + roundedUp(maker.hire, maker.rate) - (paid - margin);
    }

    public int beside(int i) {
        if (!within(i, NONE, law.orders.size() - 1)) {
            return NONE;
        }
        law.weigh(now, now, i);
        int may = 0;
        for (int x = 0; x < things.size(); x++) {
            if (isLetToSomeMaker(things.get(x))) {
                may++;
            }
        }
        return may;
    }

    public int check(int n) {
        // The bound is asked of the bytes first, so that 3 n cannot wrap around.
        if (!within(n, 0, taped / 12)) {
            return -2;
        }
        taped = 0;
        return firstWrong(3 * n);
    }

    public int look(int who, int what) {
        Person person = findPerson(who);
        if (person != null) {
            return what == 0 ? person.points : what == 1 ? person.purse : NONE;
        }
        Maker maker = who >= 100 ? findMaker(who - 100) : null;
        if (maker == null || !within(what, 0, cloths.size())) {
            return NONE;
        }
        return what == 0 ? maker.made : maker.yards[what - 1];
    }

    public int count(int what) {
        if (within(what, 20, 20 + law.orders.size() - 1)) {
            return law.orders.get(what - 20).clauses;
        }
        if (within(what, 100, 100 + things.size() - 1)) {
            return things.get(what - 100).shops[0];
        }
        if (within(what, 200, 200 + things.size() - 1)) {
            return things.get(what - 200).shops[1];
        }
        return plainCount(what);
    }

    private int plainCount(int what) {
        switch (what) {
            case 0:
                return now;
            case 1:
                return cloths.size();
            case 2:
                return drawings.size();
            case 3:
                return things.size();
            case 4:
                return makers.size();
            case 5:
                return law.orders.size();
            case 6:
                return persons.size();
            case 7:
                return dockets.size();
            case 8:
                return seenOnes.size();
            case 9:
                return rubbedOnes.size();
            case 10:
                return taped;
            default:
                return NONE;
        }
    }

    // ---- finding what a number names: null if there is none

    private Cloth findCloth(int i) {
        return within(i, 0, cloths.size() - 1) ? cloths.get(i) : null;
    }

    private Drawing findDrawing(int i) {
        return within(i, 0, drawings.size() - 1) ? drawings.get(i) : null;
    }

    private Thing findThing(int i) {
        return within(i, 0, things.size() - 1) ? things.get(i) : null;
    }

    private Thing findCoat(int i) {
        Thing thing = findThing(i);
        return thing != null && thing.kind == COAT ? thing : null;
    }

    private Maker findMaker(int i) {
        return within(i, 0, makers.size() - 1) ? makers.get(i) : null;
    }

    private Person findPerson(int i) {
        return within(i, 0, persons.size() - 1) ? persons.get(i) : null;
    }

    // ---- small helpers of the calls above

    private static boolean within(int value, int lowest, int highest) {
        return value >= lowest && value <= highest;
    }

    private static int roundedUp(int dividend, int divisor) {
        return divisor <= 0 ? 0 : (dividend + divisor - 1) / divisor;
    }

    private static int yardsFor(Thing coat, int n) {
        return roundedUp(coat.inches * n, INCHES_A_YARD);
    }

    private boolean isTaken(int number) {
        for (int i = 0; i < cloths.size(); i++) {
            if (cloths.get(i).number == number) {
                return true;
            }
        }
        return false;
    }

    private boolean isMadeOf(int kind, int of) {
        switch (kind) {
            case COAT:
                return findCloth(of) != null;
            case CHAIR:
                return findDrawing(of) != null;
            case OTHER:
                return of == NONE;
            default:
                return false;
        }
    }

    private void putOnTape(int four) {
        for (int shift = 24; shift >= 0 && taped < MOST_TAPE; shift -= 8) {
            tape[taped] = (byte) (four >> shift);
            taped++;
        }
    }

    private int numberOnTape(int place) {
        int number = 0;
        for (int i = 4 * place; i < 4 * place + 4 && i < MOST_TAPE; i++) {
            number = (number << 8) | (tape[i] & 255);
        }
        return number;
    }

    /** The last N of a letter as KNOWN now, of NOW; NONE: no CLAUSE counts and holds. */
    private int askNow(char letter, Thing thing, Maker maker) {
        law.weigh(now, now, NONE);
        law.setLetters(now, thing, maker);
        return law.lastNumber(letter);
    }

    private int whyNotMade(Maker maker, Thing thing, int n, boolean marked) {
        if (askNow('b', thing, maker) != NONE) {
            return -2;
        }
        if (marked && askNow('m', thing, maker) == NONE) {
            return -3;
        }
        if (thing.kind == COAT && yardsFor(thing, n) > maker.yards[thing.of]) {
            return -4;
        }
        int then = maker.made + n;
        return then > maker.plant || then > maker.hands * maker.rate ? -5 : 0;
    }

    private int paidNow(Thing thing) {
        int most = askNow('c', thing, null);
        return most == NONE ? thing.price : Math.min(thing.price, most);
    }

    private void closeDockets(int person, int thing) {
        for (int k = 0; k < dockets.size(); k++) {
            Docket docket = dockets.get(k);
            if (docket.person == person && docket.thing == thing) {
                docket.open = false;
            }
        }
    }

    private int howManyBefore(int k) {
        Docket docket = dockets.get(k);
        int before = 0;
        for (int i = 0; i < dockets.size(); i++) {
            Docket other = dockets.get(i);
            if (i != k && other.open && other.thing == docket.thing && other.goesBefore(docket, i < k)) {
                before++;
            }
        }
        return before;
    }

    /** Below 0 if more were bought MARKED than MAKERS who are NAMED now have made. */
    private int trulyMarked(int x, int week) {
        int sum = 0;
        for (int i = 0; i < marks.size(); i++) {
            Entry one = marks.get(i);
            if (one.of == x && one.week <= week) {
                Maker maker = findMaker(one.by);
                if (maker == null) {
                    sum -= one.n;
                } else if (maker.named) {
                    sum += one.n;
                }
            }
        }
        return sum;
    }

    private void putByRate(int m, int rate) {
        int place = 0;
        while (place < m && makers.get(byRate[place]).rate >= rate) {
            place++;
        }
        for (int i = m; i > place; i--) {
            byRate[i] = byRate[i - 1];
        }
        byRate[place] = m;
    }

    private boolean mayBeTold(int told) {
        int all = (1 << makers.size()) - 1;
        return (told & ~all) == 0 && Integer.bitCount(told) <= MOST_TOLD_MAKERS;
    }

    private boolean isInTown(int set, int town) {
        for (int m = 0; m < makers.size(); m++) {
            if (((set >> m) & 1) == 1 && makers.get(m).town == town) {
                return true;
            }
        }
        return false;
    }

    /** HANDS that the set NEEDS; -2: it MAY not DO the pieces. */
    private int handsToDo(int told, int set, int pieces) {
        int free = 0;
        int used = 0;
        int still = pieces;
        for (int i = 0; i < makers.size(); i++) {
            int m = byRate[i];
            Maker maker = makers.get(m);
            if (((told >> m) & 1) == 1) {
                free += maker.hands;
            }
            if (((set >> m) & 1) == 1) {
                int makes = Math.min(maker.plant, still);
                used += roundedUp(makes, maker.rate);
                still -= makes;
            }
        }
        return still > 0 || used > free ? -2 : used;
    }

    /** The law must have been weighed. */
    private boolean isLetToSomeMaker(Thing thing) {
        for (int m = 0; m < makers.size(); m++) {
            law.setLetters(now, thing, makers.get(m));
            if (law.lastNumber('b') == NONE) {
                return true;
            }
        }
        return false;
    }

    private int firstWrong(int numbers) {
        int place = 0;
        for (int x = 0; x < things.size(); x++) {
            for (int mark = 0; mark < 2; mark++) {
                int there = things.get(x).shops[mark];
                for (int part = 0; there > 0 && part < 3; part++) {
                    int due = part == 0 ? x : part == 1 ? mark : there;
                    if (place >= numbers || numberOnTape(place) != due) {
                        return place;
                    }
                    place++;
                }
            }
        }
        return place < numbers ? place : NONE;
    }

    // ---- what the board holds

    private static final class Cloth {
        final int number;
        final int wear;
        final int cost;

        Cloth(int number, int wear, int cost) {
            this.number = number;
            this.wear = wear;
            this.cost = cost;
        }
    }

    private static final class Maker {
        final int town;
        final int plant;
        final int hands;
        final int rate;
        final int hire;
        final int[] yards = new int[MOST_CLOTHS];
        boolean named = false;
        int made = 0;

        Maker(int town, int plant, int hands, int rate, int hire) {
            this.town = town;
            this.plant = plant;
            this.hands = hands;
            this.rate = rate;
            this.hire = hire;
        }
    }

    private static final class Person {
        int points = 0;
        int purse;

        Person(int purse) {
            this.purse = purse;
        }
    }

    private static final class Docket {
        final int person;
        final int thing;
        final int since;
        int weight;
        boolean open = true;

        Docket(int person, int thing, int since, int weight) {
            this.person = person;
            this.thing = thing;
            this.since = since;
            this.weight = weight;
        }

        boolean goesBefore(Docket other, boolean lowerNumber) {
            if (weight != other.weight) {
                return weight > other.weight;
            }
            return since != other.since ? since < other.since : lowerNumber;
        }
    }

    /**
     * What was told or done in a WEEK: SEEN (of a THING), RUBBED (of a CLOTH; by: 1 it tore, 0 not),
     * MARKED ones made (of a THING; by a MAKER) or bought (by NONE).
     */
    private static final class Entry {
        final int of;
        final int by;
        final int week;
        final int n;

        Entry(int of, int by, int week, int n) {
            this.of = of;
            this.by = by;
            this.week = week;
            this.n = n;
        }
    }

    private static final class Thing {
        static final int MOST_PIECES = 9;

        final int kind;
        final int of;
        final Cloth cloth;
        final int pockets;
        final int inches;
        final int[] shops = new int[2];
        final int[] lengths;
        final int[] widths;
        int pieces = 0;
        int price = 1;

        /** The cloth is null but for coats. */
        Thing(int kind, int of, Cloth cloth, int pockets, int inches) {
            this.kind = kind;
            this.of = of;
            this.cloth = cloth;
            this.pockets = pockets;
            this.inches = inches;
            int room = kind == COAT ? MOST_PIECES : 0;
            this.lengths = new int[room];
            this.widths = new int[room];
        }

        int addPiece(int length, int width) {
            if (!within(length, 1, 60) || !within(width, 1, 60) || pieces >= lengths.length) {
                return NONE;
            }
            lengths[pieces] = length;
            widths[pieces] = width;
            pieces++;
            return pieces - 1;
        }

        int widest() {
            int most = 0;
            for (int p = 0; p < pieces; p++) {
                most = Math.max(most, widths[p]);
            }
            return most;
        }

        /** The NUMBER of its CLOTH or the number of its DRAWING. */
        int sign() {
            if (cloth != null) {
                return cloth.number;
            }
            return kind == CHAIR ? of : 0;
        }

        int stuffCost() {
            if (cloth != null) {
                return roundedUp(inches * cloth.cost, INCHES_A_YARD);
            }
            return kind == CHAIR ? inches : 0;
        }
    }

    /**
     * By the rule of flows and cuts the greatest flow from a JOINT to the floor is the least that the STICKS bear
     * which lead out of a set of JOINTS with this JOINT and without the floor. So a DRAWING is known by its cuts:
     * each keeps what its STICKS, all thick, would bear beyond the greatest LOAD inside; weaker STICKS take from
     * that, and the DRAWING BEARS as long as no cut is below 0.
     */
    private static final class Drawing {
        static final int[] BORNE = {10, 25, 60};
        static final int[] USED = {2, 4, 9};
        static final int THICK = 2;
        static final int MOST_STICKS = 8;
        static final int MOST_LOADS = 8;
        static final int MOST_CUTS = 127;

        final int joints;
        final int[] oneEnd = new int[MOST_STICKS];
        final int[] otherEnd = new int[MOST_STICKS];
        final int[] timbers = new int[MOST_STICKS];
        final int[] loadJoints = new int[MOST_LOADS];
        final int[] loadPounds = new int[MOST_LOADS];
        final int[] cutSticks = new int[MOST_CUTS];
        final int[] cutNeeds = new int[MOST_CUTS];
        final int[] cutSpare = new int[MOST_CUTS];
        final int[] trial = new int[MOST_STICKS];
        final int[] best = new int[MOST_STICKS];
        int sticks = 0;
        int loads = 0;
        int cuts = 0;
        int bestInches = NONE;
        boolean searched = false;

        Drawing(int joints) {
            this.joints = joints;
        }

        int addStick(int a, int b, int timber) {
            if (!within(a, 0, joints - 1) || !within(b, 0, joints - 1) || a == b) {
                return NONE;
            }
            if (!within(timber, 0, THICK) || sticks >= MOST_STICKS) {
                return NONE;
            }
            oneEnd[sticks] = a;
            otherEnd[sticks] = b;
            timbers[sticks] = timber;
            sticks++;
            searched = false;
            return sticks - 1;
        }

        boolean addLoad(int joint, int pounds) {
            if (!within(joint, 1, joints - 1) || !within(pounds, 1, 500) || loads >= MOST_LOADS) {
                return false;
            }
            loadJoints[loads] = joint;
            loadPounds[loads] = pounds;
            loads++;
            searched = false;
            return true;
        }

        boolean holdsUp() {
            findCuts();
            for (int s = 0; s < sticks; s++) {
                takeFromCuts(s, BORNE[THICK] - BORNE[timbers[s]]);
            }
            return isSound();
        }

        /** NONE: no choice of TIMBERS BEARS. The choice stands in best. */
        int fewestInches() {
            if (!searched) {
                bestInches = NONE;
                findCuts();
                if (isSound()) {
                    choose(0, 0);
                }
                searched = true;
            }
            return bestInches;
        }

        /** Goes through the choices from the least row on, so that of like ones the first stays. */
        private void choose(int stick, int inches) {
            if (stick >= sticks) {
                bestInches = inches;
                System.arraycopy(trial, 0, best, 0, sticks);
                return;
            }
            int thinRest = USED[0] * (sticks - stick - 1);
            for (int timber = 0; timber <= THICK; timber++) {
                int then = inches + USED[timber];
                if (bestInches == NONE || then + thinRest < bestInches) {
                    int weaker = BORNE[THICK] - BORNE[timber];
                    trial[stick] = timber;
                    takeFromCuts(stick, weaker);
                    if (isSound()) {
                        choose(stick + 1, then);
                    }
                    takeFromCuts(stick, -weaker);
                }
            }
        }

        private void findCuts() {
            cuts = 0;
            int sets = 1 << joints;
            // Sets with JOINT 0, the floor, are the odd ones.
            for (int set = 2; set < sets; set += 2) {
                int need = greatestLoad(set);
                if (need > 0) {
                    addCut(sticksOutOf(set), need);
                }
            }
        }

        private int greatestLoad(int set) {
            int most = 0;
            for (int i = 0; i < loads; i++) {
                if (((set >> loadJoints[i]) & 1) == 1) {
                    most = Math.max(most, loadPounds[i]);
                }
            }
            return most;
        }

        private int sticksOutOf(int set) {
            int out = 0;
            for (int s = 0; s < sticks; s++) {
                if (((set >> oneEnd[s]) & 1) != ((set >> otherEnd[s]) & 1)) {
                    out |= 1 << s;
                }
            }
            return out;
        }

        private void addCut(int out, int need) {
            for (int c = 0; c < cuts; c++) {
                // A cut of fewer STICKS that must bear as much says all that this one would.
                if ((cutSticks[c] & ~out) == 0 && cutNeeds[c] >= need) {
                    return;
                }
            }
            if (cuts < MOST_CUTS) {
                cutSticks[cuts] = out;
                cutNeeds[cuts] = need;
                cutSpare[cuts] = BORNE[THICK] * Integer.bitCount(out) - need;
                cuts++;
            }
        }

        private void takeFromCuts(int stick, int pounds) {
            for (int c = 0; c < cuts; c++) {
                if (((cutSticks[c] >> stick) & 1) == 1) {
                    cutSpare[c] -= pounds;
                }
            }
        }

        private boolean isSound() {
            for (int c = 0; c < cuts; c++) {
                if (cutSpare[c] < 0) {
                    return false;
                }
            }
            return true;
        }
    }

    /** Lays PIECES on cloth. Its rows serve every search; a set of PIECES is told by its bits. */
    private static final class Layout {
        static final int SETS = 1 << Thing.MOST_PIECES;

        final int[] widthOfSet = new int[SETS];
        final int[] tallestOfSet = new int[SETS];
        final int[] shortestOfSet = new int[SETS];
        final int[] row = new int[Thing.MOST_PIECES];
        int shortest = 0;
        private Thing coat = null;
        private int width = 0;
        private int pieces = 0;

        boolean isWholeOrder(Thing asked, byte[] order, int n) {
            if (n != asked.pieces || n > order.length) {
                return false;
            }
            int met = 0;
            for (int i = 0; i < n; i++) {
                if (!within(order[i], 0, n - 1) || ((met >> order[i]) & 1) == 1) {
                    return false;
                }
                met |= 1 << order[i];
            }
            return true;
        }

        /** The order must be a whole one, and no PIECE wider than the cloth. */
        int lengthOf(Thing asked, int clothWidth, byte[] order) {
            int length = 0;
            int left = 0;
            int tallest = 0;
            for (int i = 0; i < asked.pieces; i++) {
                int p = order[i];
                if (asked.widths[p] > left) {
                    length += tallest;
                    tallest = 0;
                    left = clothWidth;
                }
                left -= asked.widths[p];
                tallest = Math.max(tallest, asked.lengths[p]);
            }
            return length + tallest;
        }

        /** Finds THE LEAST: its length in shortest, its PIECES in row. They are kept, being asked one by one. */
        void search(Thing asked, int clothWidth) {
            if (coat == asked && width == clothWidth && pieces == asked.pieces) {
                return;
            }
            coat = asked;
            width = clothWidth;
            pieces = asked.pieces;
            measureSets(asked);
            shortenSets(clothWidth);
            int all = (1 << pieces) - 1;
            shortest = shortestOfSet[all];
            place(asked, 0, all, 0, clothWidth, 0);
        }

        private void measureSets(Thing asked) {
            widthOfSet[0] = 0;
            tallestOfSet[0] = 0;
            for (int set = 1; set < 1 << pieces; set++) {
                int p = Integer.numberOfTrailingZeros(set);
                int others = set & (set - 1);
                widthOfSet[set] = widthOfSet[others] + asked.widths[p];
                tallestOfSet[set] = Math.max(tallestOfSet[others], asked.lengths[p]);
            }
        }

        /**
         * The shortest length of a set over all ways to part it into ROWS. Some order gives it: with the longest ROWS
         * first, a PIECE that slips into the ROW before makes nothing longer.
         */
        private void shortenSets(int clothWidth) {
            shortestOfSet[0] = 0;
            for (int set = 1; set < 1 << pieces; set++) {
                int others = set & (set - 1);
                int lowest = set ^ others;
                int best = tallestOfSet[lowest] + shortestOfSet[others];
                // From set to set among others, each a smaller number than the one before.
                for (int more = others; more > 0; more = (more - 1) & others) {
                    int together = lowest | more;
                    if (widthOfSet[together] <= clothWidth) {
                        best = Math.min(best, tallestOfSet[together] + shortestOfSet[others ^ more]);
                    }
                }
                shortestOfSet[set] = best;
            }
        }

        /** Goes through the orders from the least row on to the first that is as short as can be. */
        private boolean place(Thing asked, int at, int rest, int closed, int left, int tallest) {
            if (rest == 0 || at >= Thing.MOST_PIECES) {
                return rest == 0;
            }
            for (int p = 0; p < asked.pieces; p++) {
                if (((rest >> p) & 1) == 1) {
                    boolean fits = asked.widths[p] <= left;
                    int behind = rest ^ (1 << p);
                    int closedThen = fits ? closed : closed + tallest;
                    int leftThen = (fits ? left : width) - asked.widths[p];
                    int tallestThen = Math.max(fits ? tallest : 0, asked.lengths[p]);
                    row[at] = p;
                    if (closedThen + atLeast(behind, leftThen, tallestThen) <= shortest
                            && place(asked, at + 1, behind, closedThen, leftThen, tallestThen)) {
                        return true;
                    }
                }
            }
            return false;
        }

        /** No order of the rest makes the ROW at hand and those behind it shorter together than this. */
        private int atLeast(int rest, int left, int tallest) {
            int best = tallest + shortestOfSet[rest];
            for (int more = rest; more > 0; more = (more - 1) & rest) {
                if (widthOfSet[more] <= left) {
                    best = Math.min(best, Math.max(tallest, tallestOfSet[more]) + shortestOfSet[rest ^ more]);
                }
            }
            return best;
        }
    }

    // ---- orders: their texts, and what they say of a WEEK

    /** An ORDER: its CLAUSES, and their Cs as code, one behind the other. */
    private static final class Order {
        final int from;
        final int to;
        final int told;
        final int clauses;
        final int[] letters;
        final int[] numbers;
        final int[] struck;
        final int[] ends;
        final int[] code;

        Order(int from, int to, int told, Reader reader) {
            this.from = from;
            this.to = to;
            this.told = told;
            this.clauses = reader.clauses;
            this.letters = Arrays.copyOf(reader.letters, clauses);
            this.numbers = Arrays.copyOf(reader.numbers, clauses);
            this.struck = Arrays.copyOf(reader.struck, clauses);
            this.ends = Arrays.copyOf(reader.ends, clauses);
            this.code = Arrays.copyOf(reader.code, reader.size);
        }
    }

    /**
     * Reads a TEXT into rows. A C becomes code with the signs behind what they join: a word is a sign (its lowest
     * byte) and a number above it: '#' a number, '@' a letter's place, '&' and '|' where to go on if no more is asked.
     * Each sign of a TEXT gives one word at most.
     */
    private static final class Reader {
        static final int MOST_CLAUSES = 12;
        static final int MOST_OPEN = 6;
        static final int MOST_DIGITS = 5;
        static final int HIGHEST_NUMBER = 99999;
        static final int MISPLACED = 1;
        static final int SIXTH_DIGIT = 2;
        static final int WRONG_NUMBER = 3;
        static final int THIRTEENTH_CLAUSE = 4;
        static final int SEVENTH_OPEN = 5;
        static final String CLAUSE_LETTERS = "bmpcgdx";
        static final String NUMBERED_LETTERS = "pcgd";
        static final String LETTERS = "wknqiatjh";

        final int[] letters = new int[MOST_CLAUSES];
        final int[] numbers = new int[MOST_CLAUSES];
        final int[] struck = new int[MOST_CLAUSES];
        final int[] ends = new int[MOST_CLAUSES];
        final int[] code = new int[MOST_TEXT];
        int clauses = 0;
        int size = 0;
        private byte[] text = new byte[0];
        private int end = 0;
        private int at = 0;
        private int fault = 0;

        /** 0: it stands; else its first FAULT, as the board answers it. */
        int read(byte[] bytes, int length) {
            text = bytes;
            end = Math.min(length, bytes.length);
            at = 0;
            fault = 0;
            clauses = 0;
            size = 0;
            for (int i = 0; i <= MOST_CLAUSES; i++) {
                if (!readClause()) {
                    return fault;
                }
                if (at >= end) {
                    return 0;
                }
                if (!take(';')) {
                    return fault;
                }
            }
            return fault;
        }

        private boolean readClause() {
            int letter = here();
            if (!isOneOf(CLAUSE_LETTERS, letter)) {
                return fail(MISPLACED);
            }
            if (clauses >= MOST_CLAUSES) {
                return fail(THIRTEENTH_CLAUSE);
            }
            at++;
            int number = 0;
            int strikes = 0;
            boolean stands;
            if (letter == 'x') {
                number = readNumber(MOST_ORDERS - 1);
                stands = number != NONE && take('.');
                strikes = stands ? readNumber(MOST_CLAUSES - 1) : NONE;
                stands = strikes != NONE;
            } else {
                if (isOneOf(NUMBERED_LETTERS, letter)) {
                    number = readNumber(letter == 'd' ? 100 : HIGHEST_NUMBER);
                }
                stands = number != NONE && take('(') && readCondition(1) && take(')');
            }
            if (stands) {
                letters[clauses] = letter;
                numbers[clauses] = number;
                struck[clauses] = strikes;
                ends[clauses] = size;
                clauses++;
            }
            return stands;
        }

        /** A C: open is how many of ( [ ! are open around it. */
        private boolean readCondition(int open) {
            int start = size;
            int part = size;
            for (int i = 0; i <= end; i++) {
                if (!readPiece(open)) {
                    return false;
                }
                int sign = here();
                if (sign == '&') {
                    emit('&', 0);
                } else {
                    leadHere('&', part);
                    if (sign != '|') {
                        leadHere('|', start);
                        return true;
                    }
                    emit('|', 0);
                    part = size;
                }
                at++;
            }
            return fail(MISPLACED);
        }

        private boolean readPiece(int open) {
            int sign = here();
            if (sign == '!' || sign == '(') {
                if (open >= MOST_OPEN) {
                    return fail(SEVENTH_OPEN);
                }
                at++;
                if (sign == '(') {
                    return readCondition(open + 1) && take(')');
                }
                return readPiece(open + 1) && emit('!', 0);
            }
            if (!readSum(open)) {
                return false;
            }
            int comparison = here();
            if (!isOneOf("<>=", comparison)) {
                return fail(MISPLACED);
            }
            at++;
            return readSum(open) && emit(comparison, 0);
        }

        /** An E. A sign is put behind its second FACTOR or TERM; 0: none waits for that. */
        private boolean readSum(int open) {
            int sum = 0;
            int product = 0;
            for (int i = 0; i <= end; i++) {
                if (!readFactor(open)) {
                    return false;
                }
                if (product != 0) {
                    emit(product, 0);
                    product = 0;
                }
                int sign = here();
                if (isOneOf("*/%", sign)) {
                    product = sign;
                } else {
                    if (sum != 0) {
                        emit(sum, 0);
                    }
                    if (!isOneOf("+-", sign)) {
                        return true;
                    }
                    sum = sign;
                }
                at++;
            }
            return fail(MISPLACED);
        }

        private boolean readFactor(int open) {
            int sign = here();
            if (sign == '[') {
                if (open >= MOST_OPEN) {
                    return fail(SEVENTH_OPEN);
                }
                at++;
                return readSum(open + 1) && take(']');
            }
            if (sign >= '0' && sign <= '9') {
                int number = readNumber(HIGHEST_NUMBER);
                return number != NONE && emit('#', number);
            }
            if (!isOneOf(LETTERS, sign)) {
                return fail(MISPLACED);
            }
            at++;
            return emit('@', LETTERS.indexOf((char) sign));
        }

        /** NONE: a FAULT. */
        private int readNumber(int most) {
            int start = at;
            int number = 0;
            while (at < end && text[at] >= '0' && text[at] <= '9') {
                if (at - start >= MOST_DIGITS) {
                    fault = -1000 * SIXTH_DIGIT - at;
                    return NONE;
                }
                number = number * 10 + text[at] - '0';
                at++;
            }
            if (at == start) {
                fault = -1000 * MISPLACED - at;
                return NONE;
            }
            if (number > most) {
                fault = -1000 * WRONG_NUMBER - start;
                return NONE;
            }
            return number;
        }

        /** The sign that comes next; NONE: the end. */
        private int here() {
            return at < end ? text[at] & 255 : NONE;
        }

        private boolean take(char sign) {
            boolean stands = at < end && text[at] == sign;
            if (stands) {
                at++;
            } else {
                fault = -1000 * MISPLACED - at;
            }
            return stands;
        }

        private boolean fail(int kind) {
            fault = -1000 * kind - at;
            return false;
        }

        private boolean emit(int sign, int number) {
            if (size < code.length) {
                code[size] = (number << 8) | sign;
                size++;
            }
            return true;
        }

        /** Leads those of a sign that go nowhere yet to the word that comes next. */
        private void leadHere(char sign, int from) {
            for (int i = from; i < size; i++) {
                if (code[i] == sign) {
                    code[i] = (size << 8) | sign;
                }
            }
        }

        private static boolean isOneOf(String signs, int sign) {
            return sign >= 0 && signs.indexOf((char) sign) >= 0;
        }
    }

    /** The ORDERS, and what counts and holds of them: weigh and setLetters come before a question. */
    private static final class Law {
        final ArrayList<Order> orders = new ArrayList<Order>();
        private final int[] counting = new int[MOST_ORDERS];
        private final int[] letters = new int[9];
        private final int[] stack = new int[MOST_TEXT];
        private int top = 0;
        private int resume = 0;
        private boolean truth = false;
        private boolean refused = false;

        /** Finds which CLAUSES count on a WEEK as KNOWN on t, one ORDER being left out (NONE: none). */
        void weigh(int week, int t, int without) {
            for (int i = 0; i < orders.size(); i++) {
                Order order = orders.get(i);
                boolean inForce = order.told <= t && order.from <= week && week <= order.to;
                counting[i] = inForce && i != without ? (1 << order.clauses) - 1 : 0;
            }
            for (int i = orders.size() - 1; i >= 0; i--) {
                Order order = orders.get(i);
                for (int j = 0; j < order.clauses; j++) {
                    if (counts(i, j, 'x') && order.numbers[j] < i) {
                        counting[order.numbers[j]] &= ~(1 << order.struck[j]);
                    }
                }
            }
        }

        /** The THING null: all of it is 0; the MAKER null: none. */
        void setLetters(int week, Thing thing, Maker maker) {
            letters[0] = week;
            letters[1] = thing == null ? 0 : thing.kind;
            letters[2] = thing == null ? 0 : thing.sign();
            letters[3] = thing == null ? 0 : thing.pockets;
            letters[4] = thing == null ? 0 : thing.inches;
            letters[5] = thing == null || thing.cloth == null ? 0 : thing.cloth.wear;
            letters[6] = maker == null ? 0 : maker.town;
            letters[7] = maker == null || !maker.named ? 0 : 1;
            letters[8] = maker == null ? 0 : maker.hands;
        }

        /** N of the last CLAUSE of the highest ORDER that counts and holds (b, m: 0); NONE: none does. */
        int lastNumber(char letter) {
            for (int i = orders.size() - 1; i >= 0; i--) {
                Order order = orders.get(i);
                for (int j = order.clauses - 1; j >= 0; j--) {
                    if (counts(i, j, letter) && holds(order, j)) {
                        return order.numbers[j];
                    }
                }
            }
            return NONE;
        }

        /** The lowest ORDER with a b that counts and holds, or its first such CLAUSE; NONE: none. */
        int lowestBar(boolean askOrder) {
            for (int i = 0; i < orders.size(); i++) {
                Order order = orders.get(i);
                for (int j = 0; j < order.clauses; j++) {
                    if (counts(i, j, 'b') && holds(order, j)) {
                        return askOrder ? i : j;
                    }
                }
            }
            return NONE;
        }

        private boolean counts(int i, int j, char letter) {
            return ((counting[i] >> j) & 1) == 1 && orders.get(i).letters[j] == letter;
        }

        private boolean holds(Order order, int clause) {
            int start = clause == 0 ? 0 : order.ends[clause - 1];
            top = 0;
            resume = start;
            truth = false;
            refused = false;
            for (int at = start; at < order.ends[clause] && !refused; at++) {
                if (at >= resume) {
                    step(order.code[at]);
                }
            }
            return truth && !refused;
        }

        private void step(int word) {
            int sign = word & 255;
            int number = word >> 8;
            switch (sign) {
                case '#':
                    push(number);
                    break;
                case '@':
                    push(number < letters.length ? letters[number] : 0);
                    break;
                case '!':
                    truth = !truth;
                    break;
                case '&':
                    resume = truth ? resume : number;
                    break;
                case '|':
                    resume = truth ? number : resume;
                    break;
                default:
                    join(sign);
                    break;
            }
        }

        private void join(int sign) {
            int right = pop();
            int left = pop();
            switch (sign) {
                case '<':
                    truth = left < right;
                    break;
                case '>':
                    truth = left > right;
                    break;
                case '=':
                    truth = left == right;
                    break;
                case '+':
                    push(left + right);
                    break;
                case '-':
                    push(left - right);
                    break;
                case '*':
                    push(left * right);
                    break;
                default:
                    if (right == 0) {
                        refused = true;
                    } else {
                        push(sign == '/' ? left / right : left % right);
                    }
                    break;
            }
        }

        private void push(int value) {
            if (top < stack.length) {
                stack[top] = value;
                top++;
            }
        }

        private int pop() {
            if (top <= 0) {
                return 0;
            }
            top--;
            return stack[top];
        }
    }
}
