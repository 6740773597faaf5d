/** A folding machine for sheet metal: lengths, states, possible bends and the cheapest order of all bends. */
public final class SheetFolder {
    public static final int NONE = -1;
    public static final int FULL = -2;
    public static final int BAD_TEXT = -3;

    private static final int MAX_TEXT = 600;
    private static final int BYTES_A_FEED = 20;
    private static final int MAX_BENDS = 8;
    private static final int MAX_LEGS = MAX_BENDS + 1;
    private static final int MAX_BACKS = 8;
    private static final int MAX_EDITS = 10;
    private static final int TOOLS = 5;
    private static final int BEAM_HEIGHT = 1;
    private static final int MOST_BEAM_HUNDREDS = 20;
    private static final int SUBSETS = 1 << MAX_BENDS;
    private static final int STEP_CODES = 2 * MAX_BENDS;
    private static final int GREATEST_RATIO = 9999;

    private final byte[] buffer = new byte[MAX_TEXT];
    private int buffered = 0;
    private final TextReader reader = new TextReader();
    private final Part part = new Part();
    private final Part scratch = new Part();
    private final History history = new History();
    private final Places places = new Places();
    private final Planner planner = new Planner();
    private final StringBuilder output = new StringBuilder();

    public SheetFolder() {
    }

    // ---- text

    public int feed(int a, int b, int c, int d, int e) {
        if (buffered + BYTES_A_FEED > MAX_TEXT) {
            return FULL;
        }
        append(a);
        append(b);
        append(c);
        append(d);
        append(e);
        return buffered;
    }

    private void append(int four) {
        for (int shift = 24; shift >= 0; shift -= 8) {
            if (buffered < MAX_TEXT) {
                buffer[buffered] = (byte) (four >> shift);
                buffered++;
            }
        }
    }

    public int load(int length) throws IllegalArgumentException {
        if (length < 0 || length > buffered) {
            throw new IllegalArgumentException("length is not 0 to the number of bytes in the buffer");
        }
        buffered = 0;
        if (!reader.readText(buffer, length, scratch)) {
            return BAD_TEXT;
        }
        part.copyFrom(scratch);
        history.forgetAll();
        return part.bendCount();
    }

    public int errorKind() {
        return reader.kindOfError;
    }

    public int errorPosition() {
        return reader.placeOfError;
    }

    // ---- profile, lengths

    public int bends() {
        return part.bendCount();
    }

    public int legs() {
        return part.legCount;
    }

    public int leg(int leg) throws IndexOutOfBoundsException {
        requireLeg(leg);
        return part.legLengths[leg];
    }

    public boolean isUp(int bend) throws IndexOutOfBoundsException {
        requireBend(bend);
        return part.goesUp(bend);
    }

    public double deduction() {
        return part.deductionOfBend();
    }

    public double flatLength() {
        if (part.legCount == 0) {
            return 0.0;
        }
        return part.sumOfLegs(part.legCount) - part.bendCount() * part.deductionOfBend();
    }

    public double linePlace(int bend) throws IndexOutOfBoundsException {
        requireBend(bend);
        return part.sumOfLegs(bend + 1) - (bend + 0.5) * part.deductionOfBend();
    }

    public double ratio() {
        return part.ratioOfSheet();
    }

    public double springBack() {
        return part.springBackAt(part.ratioOfSheet());
    }

    public double springBackFor(double ratio) throws IllegalArgumentException {
        boolean isInRange = ratio >= 0.0 && ratio <= GREATEST_RATIO;
        if (!isInRange) {
            throw new IllegalArgumentException("ratio is not 0.0 to 9999.0");
        }
        return part.springBackAt(ratio);
    }

    public int swingAngle() {
        // The spring-back is rounded down before 900 is added: the sum in doubles could round up.
        return 900 + (int) part.springBackAt(part.ratioOfSheet());
    }

    public int tool(int tool, int what) throws IllegalArgumentException {
        Word word = Word.ofTool(tool);
        if (word == null || what < 0 || what >= word.numberCount()) {
            throw new IllegalArgumentException("there is no such number of a tool");
        }
        return part.toolNumbers[2 * tool + what];
    }

    public int finishedWidth() {
        places.layFinished(part);
        return Places.extent(places.farX, part.legCount);
    }

    public int finishedHeight() {
        places.layFinished(part);
        return Places.extent(places.farY, part.legCount);
    }

    public boolean isFinishedCrossed() {
        places.layFinished(part);
        return places.crossesItself();
    }

    public int finishedCorner(int leg, int what) throws IndexOutOfBoundsException, IllegalArgumentException {
        requireLeg(leg);
        requireChoice(what, 1);
        places.layFinished(part);
        return what == 0 ? places.farX[leg] : places.farY[leg];
    }

    public boolean isSymmetric() {
        return part.isSameFromOtherEnd();
    }

    public int longestLeg() {
        int longest = NONE;
        for (int leg = 0; leg < part.legCount && leg < MAX_LEGS; leg++) {
            if (longest == NONE || part.legLengths[leg] > part.legLengths[longest]) {
                longest = leg;
            }
        }
        return longest;
    }

    // ---- state

    public int made() {
        return part.madeBits;
    }

    public int steps() {
        return part.stepCount;
    }

    public int step(int step, int what) throws IndexOutOfBoundsException, IllegalArgumentException {
        if (step < 0 || step >= part.stepCount || step >= MAX_BENDS) {
            throw new IndexOutOfBoundsException("there is no such step");
        }
        requireChoice(what, 3);
        switch (what) {
            case 0:
                return part.stepCodes[step] >> 1;
            case 1:
                return part.stepCodes[step] & 1;
            case 2:
                return part.stepGauges[step];
            default:
                return part.stepCosts[step];
        }
    }

    public int costSoFar() {
        return part.sumOfCosts();
    }

    // ---- what a step would be in the present state

    public int reason(int bend, int side) throws IndexOutOfBoundsException, IllegalArgumentException {
        requireStep(bend, side);
        return reasonNow(2 * bend + side);
    }

    public int gauge(int bend, int side) throws IndexOutOfBoundsException, IllegalArgumentException {
        requireStep(bend, side);
        return gaugeNow(2 * bend + side);
    }

    public int corner(int bend, int side, int leg, int what)
            throws IndexOutOfBoundsException, IllegalArgumentException {
        requireBend(bend);
        requireLeg(leg);
        requireChoice(side, 1);
        requireChoice(what, 1);
        places.layStep(part, part.madeBits, 2 * bend + side);
        return what == 0 ? places.farX[leg] : places.farY[leg];
    }

    public int top(int bend, int side) throws IndexOutOfBoundsException, IllegalArgumentException {
        requireStep(bend, side);
        places.layStep(part, part.madeBits, 2 * bend + side);
        return places.topOfFreeSide();
    }

    public int hitting(int bend, int side) throws IndexOutOfBoundsException, IllegalArgumentException {
        requireStep(bend, side);
        places.layStep(part, part.madeBits, 2 * bend + side);
        return places.legsHitting(part);
    }

    public int refused(int reason) throws IllegalArgumentException {
        if (reason < 1 || reason > Places.HITS_ITSELF) {
            throw new IllegalArgumentException("reason is not 1 to 6");
        }
        int count = 0;
        for (int code = 0; code < 2 * part.bendCount(); code++) {
            if (reasonNow(code) == reason) {
                count++;
            }
        }
        return count;
    }

    public int possible() {
        return places.possibleSteps(part, part.madeBits);
    }

    public int stuck() {
        int possibleNow = places.possibleSteps(part, part.madeBits);
        int count = 0;
        for (int bend = 0; bend < part.bendCount(); bend++) {
            boolean isMade = (part.madeBits >> bend & 1) != 0;
            if (!isMade && (possibleNow >> 2 * bend & 3) == 0) {
                count++;
            }
        }
        return count;
    }

    public int costOf(int bend, int side) throws IndexOutOfBoundsException, IllegalArgumentException {
        requireStep(bend, side);
        return costNow(2 * bend + side);
    }

    private int reasonNow(int code) {
        return places.reasonFor(part, part.madeBits, code);
    }

    private int gaugeNow(int code) {
        places.layStep(part, part.madeBits, code);
        return places.reachToBack();
    }

    private int costNow(int code) {
        return part.priceBetween(part.lastCode(), part.lastGauge(), code, gaugeNow(code));
    }

    // ---- orders from the present state on

    public long orders() {
        planner.prepare(part);
        return planner.ordersFrom(part.madeBits);
    }

    public int leastCost() {
        planner.prepare(part);
        return planner.leastTotal;
    }

    public int plannedSteps() {
        planner.prepare(part);
        return planner.planLength;
    }

    public int planned(int place) throws IndexOutOfBoundsException {
        planner.prepare(part);
        if (place < 0 || place >= planner.planLength || place >= MAX_BENDS) {
            throw new IndexOutOfBoundsException("there is no such step of the best order");
        }
        return planner.plan[place];
    }

    public int greatestCost() {
        planner.prepare(part);
        return planner.greatestTotal;
    }

    public long ordersWith(int bend, int side) throws IndexOutOfBoundsException, IllegalArgumentException {
        requireStep(bend, side);
        if (reasonNow(2 * bend + side) != 0) {
            return 0L;
        }
        planner.prepare(part);
        return planner.ordersFrom(part.madeBits | 1 << bend);
    }

    public int lastSteps() {
        planner.prepare(part);
        return planner.stepsAtTheEnd(part);
    }

    public int mostBends() {
        planner.prepare(part);
        return planner.mostBendsFrom(part);
    }

    // ---- trials

    public int greatestBeam() {
        scratch.copyFrom(part);
        int hundreds = NONE;
        // A higher beam is never hit less, so the greatest height is found by halving.
        for (int more = 16; more > 0; more >>= 1) {
            int height = hundreds + more;
            scratch.toolNumbers[BEAM_HEIGHT] = 100 * height;
            if (height <= MOST_BEAM_HUNDREDS && planner.reachesAll(scratch)) {
                hundreds = height;
            }
        }
        return hundreds == NONE ? NONE : 100 * hundreds;
    }

    public int costIfTurned(int bend) throws IndexOutOfBoundsException, IllegalStateException {
        requireBend(bend);
        requireFlat();
        scratch.copyFrom(part);
        scratch.upBits ^= 1 << bend;
        planner.prepare(scratch);
        return planner.leastTotal;
    }

    // ---- edits

    public int fold(int bend, int side)
            throws IndexOutOfBoundsException, IllegalArgumentException, IllegalStateException {
        requireStep(bend, side);
        if (reasonNow(2 * bend + side) != 0) {
            throw new IllegalStateException("the step is refused");
        }
        return makeStep(2 * bend + side);
    }

    public int foldNext() throws IllegalStateException {
        planner.prepare(part);
        if (planner.planLength < 1) {
            throw new IllegalStateException("there is no order, or all bends are made");
        }
        int code = planner.plan[0];
        makeStep(code);
        return code;
    }

    private int makeStep(int code) {
        int cost = costNow(code);
        history.remember(part);
        part.addStep(code, gaugeNow(code), cost);
        return cost;
    }

    public int unfold() {
        history.remember(part);
        int before = part.stepCount;
        part.dropSteps();
        return before;
    }

    public int setLeg(int leg, int length)
            throws IndexOutOfBoundsException, IllegalArgumentException, IllegalStateException {
        requireLeg(leg);
        if (!Word.LEG.allows(0, length)) {
            throw new IllegalArgumentException("length is not 1 to 9999");
        }
        requireFlat();
        history.remember(part);
        int before = part.legLengths[leg];
        part.legLengths[leg] = length;
        return before;
    }

    public boolean setDirection(int bend, boolean isUp) throws IndexOutOfBoundsException, IllegalStateException {
        requireBend(bend);
        requireFlat();
        history.remember(part);
        boolean before = part.goesUp(bend);
        if (before != isUp) {
            part.upBits ^= 1 << bend;
        }
        return before;
    }

    public int setTool(int tool, int first, int second) throws IllegalArgumentException {
        Word word = Word.ofTool(tool);
        if (word == null || !word.allows(0, first) || !word.allowsBehind(first, 1, second)) {
            throw new IllegalArgumentException("a number of a tool is out of range");
        }
        history.remember(part);
        int before = part.toolNumbers[2 * tool];
        part.putTool(tool, first, second);
        return before;
    }

    public int setSheet(int thickness, int radius, int neutral) throws IllegalArgumentException {
        if (!Word.SHEET.allows(0, thickness) || !Word.SHEET.allows(1, radius) || !Word.SHEET.allows(2, neutral)) {
            throw new IllegalArgumentException("a number of the sheet is out of range");
        }
        history.remember(part);
        int before = part.thickness;
        part.putSheet(thickness, radius, neutral);
        return before;
    }

    public int setCost(int flip, int turn, int move) throws IllegalArgumentException {
        if (!Word.COST.allows(0, flip) || !Word.COST.allows(1, turn) || !Word.COST.allows(2, move)) {
            throw new IllegalArgumentException("a cost is not 0 to 99");
        }
        history.remember(part);
        int before = part.flipCost;
        part.putCosts(flip, turn, move);
        return before;
    }

    public int undo() {
        return history.takeBack(part) ? history.count : NONE;
    }

    // ---- output

    public int write() {
        output.setLength(0);
        for (int leg = 0; leg < part.legCount && leg < MAX_LEGS; leg++) {
            if (leg > 0) {
                writeBend(leg - 1);
            }
            output.append(part.legLengths[leg]);
        }
        if (part.stepCount > 0) {
            output.append(" cost ");
            output.append(part.sumOfCosts());
        }
        return output.length();
    }

    private void writeBend(int bend) {
        output.append(part.goesUp(bend) ? '^' : 'v');
        if ((part.madeBits >> bend & 1) != 0) {
            output.append('*');
        }
    }

    public char written(int k) throws IndexOutOfBoundsException {
        if (k < 0 || k >= output.length()) {
            throw new IndexOutOfBoundsException("there is no such character");
        }
        return output.charAt(k);
    }

    // ---- what the methods ask of their parameters

    private void requireBend(int bend) {
        if (bend < 0 || bend >= part.bendCount() || bend >= MAX_BENDS) {
            throw new IndexOutOfBoundsException("there is no such bend");
        }
    }

    private void requireLeg(int leg) {
        if (leg < 0 || leg >= part.legCount || leg >= MAX_LEGS) {
            throw new IndexOutOfBoundsException("there is no such leg");
        }
    }

    private static void requireChoice(int choice, int greatest) {
        if (choice < 0 || choice > greatest) {
            throw new IllegalArgumentException("a parameter is out of range");
        }
    }

    private void requireStep(int bend, int side) {
        requireBend(bend);
        requireChoice(side, 1);
    }

    private void requireFlat() {
        if (part.stepCount > 0) {
            throw new IllegalStateException("a step was made");
        }
    }

    /** The words that begin statements, with the ranges of the numbers behind them. */
    private enum Word {
        SHEET("sheet", 1, 60, 200, 100),
        LEG("leg", 1, 9999, 0, 0),
        UP("up", 1, 9999, 0, 0),
        DOWN("down", 1, 9999, 0, 0),
        BACK("back", 0, 999, 300, 0),
        BEAM("beam", 0, 9999, 9999, 0),
        TABLE("table", 0, 9999, 9999, 0),
        WING("wing", 0, 9999, 9999, 0),
        GAUGE("gauge", 0, 9999, 9999, 0),
        FLANGE("flange", 0, 9999, 0, 0),
        COST("cost", 0, 99, 99, 99);

        static final int MAX_NUMBERS = 3;
        private static final Word[] ALL = values();

        private final String text;
        private final int leastOfFirst;
        private final int mostOfFirst;
        private final int mostOfSecond;
        private final int mostOfThird;

        // A greatest number of 0 tells that the statement has no such number.
        Word(String text, int leastOfFirst, int mostOfFirst, int mostOfSecond, int mostOfThird) {
            this.text = text;
            this.leastOfFirst = leastOfFirst;
            this.mostOfFirst = mostOfFirst;
            this.mostOfSecond = mostOfSecond;
            this.mostOfThird = mostOfThird;
        }

        static Word find(byte[] bytes, int from, int length) {
            for (int i = 0; i < ALL.length; i++) {
                if (ALL[i].isSpelled(bytes, from, length)) {
                    return ALL[i];
                }
            }
            return null;
        }

        private boolean isSpelled(byte[] bytes, int from, int length) {
            if (length != text.length() || from < 0 || from + length > bytes.length) {
                return false;
            }
            for (int i = 0; i < length; i++) {
                if (bytes[from + i] != text.charAt(i)) {
                    return false;
                }
            }
            return true;
        }

        static Word ofTool(int tool) {
            switch (tool) {
                case 0:
                    return BEAM;
                case 1:
                    return TABLE;
                case 2:
                    return WING;
                case 3:
                    return GAUGE;
                case 4:
                    return FLANGE;
                default:
                    return null;
            }
        }

        int toolNumber() {
            for (int tool = 0; tool < TOOLS; tool++) {
                if (ofTool(tool) == this) {
                    return tool;
                }
            }
            return NONE;
        }

        int numberCount() {
            return mostOfThird > 0 ? 3 : mostOfSecond > 0 ? 2 : 1;
        }

        boolean allows(int place, int number) {
            switch (place) {
                case 0:
                    return number >= leastOfFirst && number <= mostOfFirst;
                case 1:
                    return number >= 0 && number <= mostOfSecond;
                default:
                    return number >= 0 && number <= mostOfThird;
            }
        }

        /** Whether a number is allowed behind the first one of its statement. */
        boolean allowsBehind(int first, int place, int number) {
            return allows(place, number) && (this != GAUGE || number >= first);
        }

        boolean isBend() {
            return this == UP || this == DOWN;
        }
    }

    /** Reads a text and tells its error. */
    private static final class TextReader {
        private static final int ILLEGAL_TOKEN = 1;
        private static final int OTHER_TOKEN = 2;
        private static final int OUT_OF_RANGE = 3;
        private static final int LEG_MISPLACED = 4;
        private static final int TOO_MANY = 5;

        private static final int AT_END = 0;
        private static final int ILLEGAL = 1;
        private static final int WORD = 2;
        private static final int NUMBER = 3;
        private static final int SEMICOLON = 4;

        private static final int LONGEST_WORD = 6;
        private static final int LONGEST_NUMBER = 4;

        int kindOfError = 0;
        int placeOfError = NONE;

        private byte[] bytes = new byte[0];
        private int length = 0;
        private int tokenFrom = 0;
        private int tokenTo = 0;
        private int token = AT_END;
        private int tokenNumber = 0;
        private final int[] numbers = new int[Word.MAX_NUMBERS];

        boolean readText(byte[] text, int textLength, Part into) {
            bytes = text;
            length = textLength <= text.length ? textLength : text.length;
            tokenTo = 0;
            kindOfError = 0;
            placeOfError = NONE;
            into.clear();
            nextToken();
            for (int count = 0; count < MAX_TEXT && token != AT_END && kindOfError == 0; count++) {
                readStatement(into);
                nextToken();
            }
            return kindOfError == 0;
        }

        private void readStatement(Part into) {
            Word word = token == WORD ? Word.find(bytes, tokenFrom, tokenTo - tokenFrom) : null;
            int error = word == null ? errorIfNot(WORD, OTHER_TOKEN) : errorOfWord(word, into);
            for (int i = 0; i < Word.MAX_NUMBERS; i++) {
                numbers[i] = 0;
                if (error == 0 && word != null && i < word.numberCount()) {
                    nextToken();
                    error = errorOfNumber(word, i, into);
                    numbers[i] = tokenNumber;
                }
            }
            if (error == 0) {
                nextToken();
                error = errorIfNot(SEMICOLON, 0);
            }
            if (error == 0 && word != null) {
                accept(word, into);
            } else {
                kindOfError = error;
                placeOfError = tokenFrom;
            }
        }

        private int errorIfNot(int wanted, int otherwise) {
            if (token == ILLEGAL) {
                return ILLEGAL_TOKEN;
            }
            return token != wanted ? OTHER_TOKEN : otherwise;
        }

        private static int errorOfWord(Word word, Part into) {
            boolean isLegMisplaced = word == Word.LEG && into.legCount > 0;
            boolean isLegMissing = word.isBend() && into.legCount == 0;
            if (isLegMisplaced || isLegMissing) {
                return LEG_MISPLACED;
            }
            boolean isNinthBend = word.isBend() && into.bendCount() >= MAX_BENDS;
            boolean isNinthBack = word == Word.BACK && into.backCount >= MAX_BACKS;
            return isNinthBend || isNinthBack ? TOO_MANY : 0;
        }

        private int errorOfNumber(Word word, int place, Part into) {
            int error = errorIfNot(NUMBER, 0);
            if (error != 0) {
                return error;
            }
            boolean isAllowed = place == 0
                    ? word.allows(0, tokenNumber)
                    : word.allowsBehind(numbers[0], place, tokenNumber);
            if (word == Word.BACK && place == 0 && tokenNumber <= into.lastBackRatio()) {
                isAllowed = false;
            }
            return isAllowed ? 0 : OUT_OF_RANGE;
        }

        private void accept(Word word, Part into) {
            int tool = word.toolNumber();
            if (tool != NONE) {
                into.putTool(tool, numbers[0], numbers[1]);
            } else if (word == Word.SHEET) {
                into.putSheet(numbers[0], numbers[1], numbers[2]);
            } else if (word == Word.COST) {
                into.putCosts(numbers[0], numbers[1], numbers[2]);
            } else if (word == Word.BACK) {
                into.addBack(numbers[0], numbers[1]);
            } else {
                into.addLeg(numbers[0], word == Word.UP);
            }
        }

        private void nextToken() {
            tokenFrom = tokenTo;
            while (tokenFrom < length && isSpace(bytes[tokenFrom])) {
                tokenFrom++;
            }
            tokenTo = tokenFrom;
            tokenNumber = 0;
            if (tokenFrom >= length) {
                token = AT_END;
            } else if (isLetter(bytes[tokenFrom])) {
                takeWord();
            } else if (isDigit(bytes[tokenFrom])) {
                takeNumber();
            } else {
                token = bytes[tokenFrom] == ';' ? SEMICOLON : ILLEGAL;
                tokenTo++;
            }
        }

        private void takeWord() {
            while (tokenTo < length && isLetter(bytes[tokenTo])) {
                tokenTo++;
            }
            token = tokenTo - tokenFrom <= LONGEST_WORD ? WORD : ILLEGAL;
        }

        private void takeNumber() {
            while (tokenTo < length && isDigit(bytes[tokenTo])) {
                if (tokenTo - tokenFrom < LONGEST_NUMBER) {
                    tokenNumber = 10 * tokenNumber + (bytes[tokenTo] - '0');
                }
                tokenTo++;
            }
            token = tokenTo - tokenFrom <= LONGEST_NUMBER ? NUMBER : ILLEGAL;
        }

        private static boolean isSpace(byte b) {
            return b == ' ' || b == '\n';
        }

        private static boolean isLetter(byte b) {
            return b >= 'a' && b <= 'z';
        }

        private static boolean isDigit(byte b) {
            return b >= '0' && b <= '9';
        }
    }

    /** All that a text defines, and the steps that were made. */
    private static final class Part {
        int legCount = 0;
        final int[] legLengths = new int[MAX_LEGS];
        int upBits = 0;
        int thickness = 0;
        int radius = 0;
        int neutral = 0;
        final int[] toolNumbers = new int[2 * TOOLS];
        int flipCost = 0;
        int turnCost = 0;
        int moveCost = 0;
        int backCount = 0;
        final int[] backRatios = new int[MAX_BACKS];
        final int[] backAngles = new int[MAX_BACKS];
        int madeBits = 0;
        int stepCount = 0;
        final int[] stepCodes = new int[MAX_BENDS];
        final int[] stepGauges = new int[MAX_BENDS];
        final int[] stepCosts = new int[MAX_BENDS];

        Part() {
            clear();
        }

        /** Makes it what an empty text defines. */
        void clear() {
            legCount = 0;
            upBits = 0;
            backCount = 0;
            putSheet(10, 10, 40);
            putTool(0, 300, 600);
            putTool(1, 300, 600);
            putTool(2, 200, 400);
            putTool(3, 0, 9999);
            putTool(4, 0, 0);
            putCosts(1, 1, 1);
            dropSteps();
        }

        void copyFrom(Part other) {
            legCount = other.legCount;
            System.arraycopy(other.legLengths, 0, legLengths, 0, MAX_LEGS);
            upBits = other.upBits;
            putSheet(other.thickness, other.radius, other.neutral);
            System.arraycopy(other.toolNumbers, 0, toolNumbers, 0, 2 * TOOLS);
            putCosts(other.flipCost, other.turnCost, other.moveCost);
            backCount = other.backCount;
            System.arraycopy(other.backRatios, 0, backRatios, 0, MAX_BACKS);
            System.arraycopy(other.backAngles, 0, backAngles, 0, MAX_BACKS);
            madeBits = other.madeBits;
            stepCount = other.stepCount;
            System.arraycopy(other.stepCodes, 0, stepCodes, 0, MAX_BENDS);
            System.arraycopy(other.stepGauges, 0, stepGauges, 0, MAX_BENDS);
            System.arraycopy(other.stepCosts, 0, stepCosts, 0, MAX_BENDS);
        }

        void putSheet(int newThickness, int newRadius, int newNeutral) {
            thickness = newThickness;
            radius = newRadius;
            neutral = newNeutral;
        }

        void putTool(int tool, int first, int second) {
            if (tool >= 0 && tool < TOOLS) {
                toolNumbers[2 * tool] = first;
                toolNumbers[2 * tool + 1] = second;
            }
        }

        void putCosts(int flip, int turn, int move) {
            flipCost = flip;
            turnCost = turn;
            moveCost = move;
        }

        void addBack(int ratio, int angle) {
            if (backCount < MAX_BACKS) {
                backRatios[backCount] = ratio;
                backAngles[backCount] = angle;
                backCount++;
            }
        }

        int lastBackRatio() {
            return backCount > 0 ? backRatios[backCount - 1] : NONE;
        }

        void addLeg(int length, boolean isBehindUp) {
            if (legCount < MAX_LEGS) {
                legLengths[legCount] = length;
                if (legCount > 0 && isBehindUp) {
                    upBits |= 1 << legCount - 1;
                }
                legCount++;
            }
        }

        int bendCount() {
            return legCount > 0 ? legCount - 1 : 0;
        }

        int allBends() {
            return (1 << bendCount()) - 1;
        }

        boolean goesUp(int bend) {
            return (upBits >> bend & 1) != 0;
        }

        int sumOfLegs(int count) {
            int sum = 0;
            for (int leg = 0; leg < count && leg < MAX_LEGS; leg++) {
                sum += legLengths[leg];
            }
            return sum;
        }

        boolean isSameFromOtherEnd() {
            for (int leg = 0; leg < legCount && leg < MAX_LEGS; leg++) {
                if (legLengths[leg] != legLengths[legCount - 1 - leg]) {
                    return false;
                }
            }
            for (int bend = 0; bend < bendCount(); bend++) {
                if (goesUp(bend) != goesUp(bendCount() - 1 - bend)) {
                    return false;
                }
            }
            return true;
        }

        double deductionOfBend() {
            return 2.0 * (radius + thickness) - 1.5708 * (radius + neutral / 100.0 * thickness);
        }

        double ratioOfSheet() {
            return thickness > 0 ? 10.0 * radius / thickness : 0.0;
        }

        double springBackAt(double ratio) {
            if (backCount == 0) {
                return 0.0;
            }
            if (ratio <= backRatios[0]) {
                return backAngles[0];
            }
            for (int next = 1; next < backCount && next < MAX_BACKS; next++) {
                if (ratio <= backRatios[next]) {
                    return springBackBetween(next - 1, next, ratio);
                }
            }
            return backAngles[backCount - 1];
        }

        private double springBackBetween(int a, int b, double ratio) {
            double width = backRatios[b] - backRatios[a];
            if (width <= 0.0) {
                return backAngles[a];
            }
            double rise = backAngles[b] - backAngles[a];
            return backAngles[a] + rise * (ratio - backRatios[a]) / width;
        }

        void dropSteps() {
            madeBits = 0;
            stepCount = 0;
        }

        void addStep(int code, int gauge, int cost) {
            if (stepCount < MAX_BENDS) {
                stepCodes[stepCount] = code;
                stepGauges[stepCount] = gauge;
                stepCosts[stepCount] = cost;
                stepCount++;
                madeBits |= 1 << (code >> 1);
            }
        }

        int lastCode() {
            return stepCount > 0 ? stepCodes[stepCount - 1] : NONE;
        }

        int lastGauge() {
            return stepCount > 0 ? stepGauges[stepCount - 1] : NONE;
        }

        int sumOfCosts() {
            int sum = 0;
            for (int step = 0; step < stepCount && step < MAX_BENDS; step++) {
                sum += stepCosts[step];
            }
            return sum;
        }

        /** What a step costs behind another one; NONE as the one before if it is the first of all. */
        int priceBetween(int codeBefore, int gaugeBefore, int code, int gauge) {
            if (codeBefore == NONE) {
                return 0;
            }
            int price = 0;
            if (goesUp(codeBefore >> 1) != goesUp(code >> 1)) {
                price += flipCost;
            }
            if ((codeBefore & 1) != (code & 1)) {
                price += turnCost;
            }
            if (gaugeBefore != gauge) {
                price += moveCost;
            }
            return price;
        }

        /** Whether the same steps are possible in the same states, with the same gauges. */
        boolean bendsLike(Part other) {
            if (legCount != other.legCount || upBits != other.upBits) {
                return false;
            }
            for (int leg = 0; leg < legCount && leg < MAX_LEGS; leg++) {
                if (legLengths[leg] != other.legLengths[leg]) {
                    return false;
                }
            }
            for (int i = 0; i < 2 * TOOLS; i++) {
                if (toolNumbers[i] != other.toolNumbers[i]) {
                    return false;
                }
            }
            return true;
        }

        /** Whether, if it bends like the other one, the orders and their costs are the same from now on. */
        boolean goesOnLike(Part other) {
            return madeBits == other.madeBits
                    && lastCode() == other.lastCode()
                    && lastGauge() == other.lastGauge()
                    && flipCost == other.flipCost
                    && turnCost == other.turnCost
                    && moveCost == other.moveCost;
        }
    }

    /** The parts as they were before the latest edits. */
    private static final class History {
        private final Part[] before = new Part[MAX_EDITS];
        private int oldest = 0;
        int count = 0;

        History() {
            for (int i = 0; i < MAX_EDITS; i++) {
                before[i] = new Part();
            }
        }

        void forgetAll() {
            count = 0;
        }

        void remember(Part part) {
            if (count == MAX_EDITS) {
                oldest = (oldest + 1) % MAX_EDITS;
                count--;
            }
            before[(oldest + count) % MAX_EDITS].copyFrom(part);
            count++;
        }

        boolean takeBack(Part part) {
            if (count == 0) {
                return false;
            }
            count--;
            part.copyFrom(before[(oldest + count) % MAX_EDITS]);
            return true;
        }
    }

    /** Where the legs lie, in a step or in the finished profile, and what they hit there. */
    private static final class Places {
        static final int MADE_ALREADY = 1;
        static final int FLANGE_SHORT = 2;
        static final int GAUGE_OUT = 3;
        static final int CLAMPED_HITS = 4;
        static final int FREE_HITS = 5;
        static final int HITS_ITSELF = 6;

        // Directions, clockwise.
        private static final int GOING_UP = 0;
        private static final int TO_FRONT = 1;
        private static final int GOING_DOWN = 2;
        private static final int TO_BACK = 3;
        private static final int CLOCKWISE = 1;
        private static final int COUNTER_CLOCKWISE = 3;

        // The end of each leg that is farther from where the walk began.
        final int[] farX = new int[MAX_LEGS];
        final int[] farY = new int[MAX_LEGS];
        // The leg as a rectangle: since it is level or upright, it fills the rectangle round it.
        private final int[] leastX = new int[MAX_LEGS];
        private final int[] mostX = new int[MAX_LEGS];
        private final int[] leastY = new int[MAX_LEGS];
        private final int[] mostY = new int[MAX_LEGS];
        private int legCount = 0;
        private int clampedFrom = 0;
        private int clampedTo = 0;

        void layFinished(Part part) {
            legCount = part.legCount;
            walk(part, 0, 1, TO_FRONT, COUNTER_CLOCKWISE, part.allBends(), part.upBits);
        }

        void layStep(Part part, int made, int code) {
            int bend = code >> 1;
            int up = part.goesUp(bend) ? part.upBits : ~part.upBits;
            legCount = part.legCount;
            if ((code & 1) == 0) {
                clampedFrom = 0;
                clampedTo = bend;
                walk(part, bend, -1, TO_BACK, CLOCKWISE, made, up);
                walk(part, bend + 1, 1, GOING_UP, COUNTER_CLOCKWISE, made, up);
            } else {
                clampedFrom = bend + 1;
                clampedTo = legCount - 1;
                walk(part, bend + 1, 1, TO_BACK, CLOCKWISE, made, up);
                walk(part, bend, -1, GOING_UP, COUNTER_CLOCKWISE, made, up);
            }
        }

        private void walk(Part part, int first, int stride, int begin, int turnIfUp, int made, int up) {
            int x = 0;
            int y = 0;
            int direction = begin;
            for (int leg = first; leg >= 0 && leg < legCount && leg < MAX_LEGS; leg += stride) {
                int length = part.legLengths[leg];
                farX[leg] = x + (direction == TO_FRONT ? length : direction == TO_BACK ? -length : 0);
                farY[leg] = y + (direction == GOING_UP ? length : direction == GOING_DOWN ? -length : 0);
                leastX[leg] = Math.min(x, farX[leg]);
                mostX[leg] = Math.max(x, farX[leg]);
                leastY[leg] = Math.min(y, farY[leg]);
                mostY[leg] = Math.max(y, farY[leg]);
                x = farX[leg];
                y = farY[leg];
                int bendBehind = stride > 0 ? leg : leg - 1;
                if (bendBehind >= 0 && (made >> bendBehind & 1) != 0) {
                    boolean isUp = (up >> bendBehind & 1) != 0;
                    direction = direction + (isUp ? turnIfUp : 4 - turnIfUp) & 3;
                }
            }
        }

        private boolean isClamped(int leg) {
            return leg >= clampedFrom && leg <= clampedTo;
        }

        int reachToBack() {
            int reach = 0;
            for (int leg = 0; leg < legCount && leg < MAX_LEGS; leg++) {
                if (isClamped(leg)) {
                    reach = Math.max(reach, -farX[leg]);
                }
            }
            return reach;
        }

        int topOfFreeSide() {
            int top = 0;
            for (int leg = 0; leg < legCount && leg < MAX_LEGS; leg++) {
                if (!isClamped(leg)) {
                    top = Math.max(top, farY[leg]);
                }
            }
            return top;
        }

        /** How wide the ends of the legs and the begin of the walk lie apart. */
        static int extent(int[] far, int count) {
            int least = 0;
            int greatest = 0;
            for (int i = 0; i < count && i < far.length; i++) {
                least = Math.min(least, far[i]);
                greatest = Math.max(greatest, far[i]);
            }
            return greatest - least;
        }

        int legsHitting(Part part) {
            int[] tools = part.toolNumbers;
            int hitting = 0;
            for (int leg = 0; leg < legCount && leg < MAX_LEGS; leg++) {
                boolean isHit = enters(leg, -tools[0], 0, 0, tools[1])
                        || enters(leg, -tools[2], 0, -tools[3], 0)
                        || !isClamped(leg) && enters(leg, 0, tools[4], 0, tools[5]);
                if (isHit) {
                    hitting |= 1 << leg;
                }
            }
            return hitting;
        }

        private boolean enters(int leg, int left, int right, int bottom, int top) {
            // An empty rectangle has nothing inside, even if a leg runs across its place.
            if (left >= right || bottom >= top) {
                return false;
            }
            return leastX[leg] < right && mostX[leg] > left && leastY[leg] < top && mostY[leg] > bottom;
        }

        boolean crossesItself() {
            for (int leg = 2; leg < legCount && leg < MAX_LEGS; leg++) {
                for (int other = 0; other < leg - 1; other++) {
                    if (touch(leg, other)) {
                        return true;
                    }
                }
            }
            return false;
        }

        private boolean touch(int a, int b) {
            return leastX[a] <= mostX[b] && leastX[b] <= mostX[a] && leastY[a] <= mostY[b] && leastY[b] <= mostY[a];
        }

        int reasonFor(Part part, int made, int code) {
            int bend = code >> 1;
            int freeLeg = (code & 1) == 0 ? bend + 1 : bend;
            if ((made >> bend & 1) != 0) {
                return MADE_ALREADY;
            }
            if (freeLeg < 0 || freeLeg >= MAX_LEGS || part.legLengths[freeLeg] < part.toolNumbers[8]) {
                return FLANGE_SHORT;
            }
            layStep(part, made, code);
            int gauge = reachToBack();
            if (gauge < part.toolNumbers[6] || gauge > part.toolNumbers[7]) {
                return GAUGE_OUT;
            }
            int hitting = legsHitting(part);
            int clamped = (2 << clampedTo) - (1 << clampedFrom);
            if ((hitting & clamped) != 0) {
                return CLAMPED_HITS;
            }
            if (hitting != 0) {
                return FREE_HITS;
            }
            return crossesItself() ? HITS_ITSELF : 0;
        }

        int possibleSteps(Part part, int made) {
            int possible = 0;
            for (int code = 0; code < 2 * part.bendCount(); code++) {
                if (reasonFor(part, made, code) == 0) {
                    possible |= 1 << code;
                }
            }
            return possible;
        }
    }

    /** The orders from a state on, reckoned over the sets of bends that are made. */
    private static final class Planner {
        private static final int UNKNOWN = -1;

        int leastTotal = NONE;
        int greatestTotal = NONE;
        final int[] plan = new int[MAX_BENDS];
        int planLength = NONE;

        private final Places places = new Places();
        // What the tables were reckoned for: they are used again as long as nothing of it changes.
        private final Part known = new Part();
        private boolean isPlanKnown = false;

        // By the set of bends made.
        private final int[] openSteps = new int[SUBSETS];
        private final boolean[] isReached = new boolean[SUBSETS];
        private final long[] orderCounts = new long[SUBSETS];
        // By the set of bends made and the step: before it (gauges), behind it (costs up to the end).
        private final int[] gauges = new int[SUBSETS * STEP_CODES];
        private final int[] leastCosts = new int[SUBSETS * STEP_CODES];
        private final int[] greatestCosts = new int[SUBSETS * STEP_CODES];

        Planner() {
            forgetSteps();
        }

        void prepare(Part part) {
            if (isPlanKnown && part.bendsLike(known) && part.goesOnLike(known)) {
                return;
            }
            reachSets(part);
            countOrders(part);
            reckonCosts(part);
            choosePlan(part);
            isPlanKnown = true;
        }

        boolean reachesAll(Part part) {
            reachSets(part);
            return isReached[part.allBends()];
        }

        long ordersFrom(int made) {
            boolean isKnown = made >= 0 && made < SUBSETS && isReached[made];
            return isKnown ? orderCounts[made] : 0L;
        }

        int stepsAtTheEnd(Part part) {
            int all = part.allBends();
            int codes = 0;
            for (int bend = 0; bend < part.bendCount() && bend < MAX_BENDS; bend++) {
                int before = all & ~(1 << bend);
                if ((part.madeBits >> bend & 1) == 0 && isReached[before]) {
                    codes |= openSteps[before];
                }
            }
            return codes;
        }

        int mostBendsFrom(Part part) {
            int most = 0;
            for (int made = 0; made < SUBSETS; made++) {
                if (isReached[made]) {
                    most = Math.max(most, Integer.bitCount(made));
                }
            }
            return most - Integer.bitCount(part.madeBits);
        }

        private void forgetSteps() {
            for (int made = 0; made < SUBSETS; made++) {
                openSteps[made] = UNKNOWN;
            }
        }

        private void reachSets(Part part) {
            if (!part.bendsLike(known)) {
                forgetSteps();
            }
            known.copyFrom(part);
            isPlanKnown = false;
            for (int made = 0; made < SUBSETS; made++) {
                isReached[made] = made == part.madeBits;
            }
            // A step leads to a greater number, so all that leads to a set was looked at before it.
            for (int made = part.madeBits; made < SUBSETS; made++) {
                if (isReached[made] && openSteps[made] == UNKNOWN) {
                    openSteps[made] = findSteps(part, made);
                }
                for (int code = 0; code < STEP_CODES; code++) {
                    if (isReached[made] && isOpen(made, code)) {
                        isReached[setBehind(made, code)] = true;
                    }
                }
            }
        }

        private int findSteps(Part part, int made) {
            int codes = 0;
            for (int code = 0; code < 2 * part.bendCount() && code < STEP_CODES; code++) {
                if (places.reasonFor(part, made, code) == 0) {
                    codes |= 1 << code;
                    gauges[made * STEP_CODES + code] = places.reachToBack();
                }
            }
            return codes;
        }

        private boolean isOpen(int made, int code) {
            return (openSteps[made] >> code & 1) != 0;
        }

        private static int setBehind(int made, int code) {
            return made | 1 << (code >> 1);
        }

        private void countOrders(Part part) {
            int all = part.allBends();
            for (int made = SUBSETS - 1; made >= 0; made--) {
                orderCounts[made] = made == all ? 1L : 0L;
                for (int code = 0; code < STEP_CODES; code++) {
                    if (isReached[made] && isOpen(made, code)) {
                        orderCounts[made] += orderCounts[setBehind(made, code)];
                    }
                }
            }
        }

        private void reckonCosts(Part part) {
            for (int made = SUBSETS - 1; made > part.madeBits; made--) {
                if (isReached[made]) {
                    reckonCostsBehind(part, made);
                }
            }
            leastTotal = costOnward(part, part.madeBits, part.lastCode(), part.lastGauge(), true);
            greatestTotal = costOnward(part, part.madeBits, part.lastCode(), part.lastGauge(), false);
        }

        /** The costs up to the end behind each step that leads to a set. */
        private void reckonCostsBehind(Part part, int made) {
            for (int last = 0; last < STEP_CODES; last++) {
                int before = made & ~(1 << (last >> 1));
                if (before != made && isReached[before] && isOpen(before, last)) {
                    int gauge = gauges[before * STEP_CODES + last];
                    leastCosts[made * STEP_CODES + last] = costOnward(part, made, last, gauge, true);
                    greatestCosts[made * STEP_CODES + last] = costOnward(part, made, last, gauge, false);
                }
            }
        }

        private int costOnward(Part part, int made, int last, int lastGauge, boolean isLeast) {
            if (made == part.allBends()) {
                return 0;
            }
            int best = NONE;
            for (int code = 0; code < STEP_CODES; code++) {
                int cost = costThrough(part, made, last, lastGauge, code, isLeast);
                boolean isBetter = best == NONE || (isLeast ? cost < best : cost > best);
                if (cost != NONE && isBetter) {
                    best = cost;
                }
            }
            return best;
        }

        /** The cost of a step and of all steps behind it; NONE if it leads to no order. */
        private int costThrough(Part part, int made, int last, int lastGauge, int code, boolean isLeast) {
            if (!isOpen(made, code)) {
                return NONE;
            }
            int behind = setBehind(made, code) * STEP_CODES + code;
            int onward = isLeast ? leastCosts[behind] : greatestCosts[behind];
            if (onward == NONE) {
                return NONE;
            }
            return onward + part.priceBetween(last, lastGauge, code, gauges[made * STEP_CODES + code]);
        }

        private void choosePlan(Part part) {
            int made = part.madeBits;
            int last = part.lastCode();
            int lastGauge = part.lastGauge();
            int rest = leastTotal;
            planLength = rest == NONE ? NONE : 0;
            for (int place = 0; place < MAX_BENDS && rest != NONE; place++) {
                int code = smallestStep(part, made, last, lastGauge, rest);
                if (code != NONE) {
                    plan[place] = code;
                    planLength = place + 1;
                    last = code;
                    lastGauge = gauges[made * STEP_CODES + code];
                    made = setBehind(made, code);
                    rest = leastCosts[made * STEP_CODES + code];
                }
            }
        }

        private int smallestStep(Part part, int made, int last, int lastGauge, int rest) {
            for (int code = 0; code < STEP_CODES; code++) {
                if (costThrough(part, made, last, lastGauge, code, true) == rest) {
                    return code;
                }
            }
            return NONE;
        }
    }
}
