/**
 * Short coded texts of the weather: typed in pieces, read by one grammar, told again, and asked
 * for the weather at a minute. All rows are made with the object, so that no call makes any.
 */
public final class SkyBulletin {
    public static final int NONE = -1;

    private static final int NOT_TOLD = NONE - 1000;
    private static final int NO_CEILING = -2;
    private static final int VARIABLE = -2;

    private static final int MOST_TYPED = 700;
    private static final int MOST_GROUPS = 9;
    private static final int MOST_WEATHERS = 3;
    private static final int MOST_CLOUDS = 4;
    private static final int STATION_LETTERS = 4;

    private static final int HOUR = 60;
    private static final int DAY = 1440;
    private static final int LONGEST_PERIOD = 1800;

    private static final int REPORT = 1;
    private static final int FORECAST = 2;

    private static final int FROM = 1;
    private static final int BECOMING = 2;
    private static final int TEMPORARY = 3;
    private static final int PROBABLE = 4;
    private static final int PROBABLE_TEMPORARY = 5;

    private static final int WIND = 0;
    private static final int VISIBILITY = 1;
    private static final int WEATHER = 2;
    private static final int CLOUDS = 3;
    private static final int PARTS = 4;

    private final char[] typed = new char[MOST_TYPED];
    private int typedLength = 0;
    private final char[] printed = new char[MOST_TYPED];
    private int printedLength = 0;
    private Bulletin kept = new Bulletin();
    private final Reader reader = new Reader();

    public SkyBulletin() {
    }

    public int type(long characters, int n) {
        if (n < 1 || n > 8 || typedLength + n > MOST_TYPED) {
            return NONE;
        }
        for (int i = 0; i < n; i++) {
            int one = byteOf(characters, i);
            if (one < 32 || one > 126) {
                return NONE;
            }
        }
        for (int i = n - 1; i >= 0; i--) {
            typed[typedLength] = (char) byteOf(characters, i);
            typedLength++;
        }
        return typedLength;
    }

    public int read(int days) {
        if (days < 28 || days > 31) {
            return NONE;
        }
        int place = reader.readText(typed, typedLength, days);
        typedLength = 0;
        if (place == 0) {
            kept = reader.exchange(kept);
        }
        return place;
    }

    public int told(int what) {
        if (what == 0) {
            return kept.kind;
        }
        if (what == 1) {
            return kept.groupCount;
        }
        if (kept.kind == 0) {
            return NOT_TOLD;
        }
        switch (what) {
            case 2:
                return kept.issue;
            case 3:
                return kept.temperature;
            case 4:
                return kept.dewPoint;
            case 5:
                return kept.pressure;
            default:
                return what >= 6 && what < 6 + STATION_LETTERS ? kept.station[what - 6] : NOT_TOLD;
        }
    }

    public int group(int g, int what) {
        if (!kept.hasGroup(g)) {
            return NONE;
        }
        Group one = kept.groups[g];
        switch (what) {
            case 0:
                return one.kind;
            case 1:
                return one.chance;
            case 2:
                return one.begin;
            case 3:
                return one.end;
            case 4:
                return one.direction;
            case 5:
                return one.speed;
            case 6:
                return one.gusts;
            case 7:
                return one.visibility;
            case 8:
                return one.weatherCount;
            case 9:
                return one.cloudCount;
            default:
                return NONE;
        }
    }

    public int weather(int g, int k) {
        if (!kept.hasGroup(g) || k < 0 || k >= kept.groups[g].weatherCount) {
            return NONE;
        }
        return kept.groups[g].weathers[k];
    }

    public int cloud(int g, int k) {
        if (!kept.hasGroup(g) || k < 0 || k >= kept.groups[g].cloudCount) {
            return NONE;
        }
        return kept.groups[g].clouds[k];
    }

    public int from(int minute, int what) {
        if (!kept.covers(minute) || what < 0 || what >= PARTS) {
            return NONE;
        }
        return kept.teller(minute, what);
    }

    public int active(int minute) {
        return kept.covers(minute) ? kept.countActive(minute) : NONE;
    }

    public int activeOne(int minute, int i) {
        return kept.covers(minute) ? kept.findActive(minute, i) : NONE;
    }

    public int least(int minute) {
        return kept.covers(minute) ? kept.leastVisibility(minute) : NONE;
    }

    public int ceiling(int minute, int way) {
        if (!kept.covers(minute) || way < 0 || way > 1) {
            return NONE;
        }
        return kept.lowestCeiling(minute, way == 1);
    }

    public int next(int minute) {
        return kept.covers(minute) ? kept.nextTurn(minute) : NONE;
    }

    public int print() {
        for (int i = 0; i < kept.textLength; i++) {
            printed[i] = kept.text[i];
        }
        printedLength = kept.textLength;
        return printedLength;
    }

    public int character(int i) {
        return i >= 0 && i < printedLength ? printed[i] : NONE;
    }

    public int check() {
        if (kept.kind == 0) {
            return 1;
        }
        int place = reader.readText(kept.text, kept.textLength, kept.days);
        return place == 0 && kept.sameAs(reader.draft) && kept.eachMinuteTells() ? 1 : 0;
    }

    private static int byteOf(long characters, int fromLowest) {
        return (int) (characters >> (8 * fromLowest)) & 255;
    }

    /** One WIND and SKY, or a change of it; what it does not tell is NONE. */
    private static final class Group {
        int kind;
        int chance;
        int begin;
        int end;
        int direction;
        int speed;
        int gusts;
        int visibility;
        int weatherCount;
        int cloudCount;
        final int[] weathers = new int[MOST_WEATHERS];
        final int[] clouds = new int[MOST_CLOUDS];

        void clear() {
            kind = 0;
            chance = 0;
            begin = NONE;
            end = NONE;
            direction = NONE;
            speed = NONE;
            gusts = NONE;
            visibility = NONE;
            weatherCount = NONE;
            cloudCount = NONE;
        }

        void addWeather(int number) {
            int count = Math.max(weatherCount, 0);
            if (count < MOST_WEATHERS) {
                weathers[count] = number;
                weatherCount = count + 1;
            }
        }

        void addCloud(int number) {
            int count = Math.max(cloudCount, 0);
            if (count < MOST_CLOUDS) {
                clouds[count] = number;
                cloudCount = count + 1;
            }
        }

        boolean tells(int part) {
            switch (part) {
                case WIND:
                    return speed != NONE;
                case VISIBILITY:
                    return visibility != NONE;
                case WEATHER:
                    return weatherCount != NONE;
                default:
                    return cloudCount != NONE;
            }
        }

        boolean tellsSomething() {
            return tells(WIND) || tells(VISIBILITY) || tells(WEATHER) || tells(CLOUDS);
        }

        /** Whether a change has taken the place of what was told before it. */
        boolean holdsAt(int minute) {
            return kind == FROM && minute >= begin || kind == BECOMING && minute >= end;
        }

        boolean isActiveAt(int minute) {
            return kind >= TEMPORARY && minute >= begin && minute < end;
        }

        /** The lower one of a ceiling found before and those of this group. */
        int lowerCeiling(int before) {
            int lowest = before;
            for (int i = 0; i < cloudCount && i < MOST_CLOUDS; i++) {
                int height = heightOf(clouds[i]);
                if (amountOf(clouds[i]) >= 3 && (lowest == NO_CEILING || height < lowest)) {
                    lowest = height;
                }
            }
            return lowest;
        }

        boolean sameAs(Group other) {
            return kind == other.kind && chance == other.chance
                    && begin == other.begin && end == other.end
                    && direction == other.direction && speed == other.speed && gusts == other.gusts
                    && visibility == other.visibility
                    && weatherCount == other.weatherCount && cloudCount == other.cloudCount
                    && sameStart(weathers, other.weathers, weatherCount)
                    && sameStart(clouds, other.clouds, cloudCount);
        }

        static int amountOf(int cloudNumber) {
            return cloudNumber & 7;
        }

        static int heightOf(int cloudNumber) {
            return (cloudNumber >> 3) & 1023;
        }

        static boolean sameStart(int[] one, int[] other, int count) {
            for (int i = 0; i < count && i < one.length && i < other.length; i++) {
                if (one[i] != other[i]) {
                    return false;
                }
            }
            return true;
        }
    }

    /** A text that was read, or is being read: its tokens, and what they tell. */
    private static final class Bulletin {
        int kind;
        int days;
        int issue;
        int temperature;
        int dewPoint;
        int pressure;
        final int[] station = new int[STATION_LETTERS];
        int groupCount;
        final Group[] groups = new Group[MOST_GROUPS];
        /** The tokens with one blank between: they alone still know M00 from 00, and 24:00 from 00:00. */
        final char[] text = new char[MOST_TYPED];
        int textLength;

        Bulletin() {
            for (int i = 0; i < MOST_GROUPS; i++) {
                groups[i] = new Group();
            }
        }

        /** Begins anew with one group, which each text has. */
        void start(int monthDays) {
            kind = 0;
            days = monthDays;
            issue = NONE;
            temperature = NOT_TOLD;
            dewPoint = NOT_TOLD;
            pressure = NOT_TOLD;
            textLength = 0;
            groupCount = 0;
            addGroup();
        }

        boolean hasGroup(int g) {
            return g >= 0 && g < groupCount && g < MOST_GROUPS;
        }

        void addGroup() {
            if (groupCount < MOST_GROUPS) {
                groups[groupCount].clear();
                groupCount++;
            }
        }

        /** Keeps the tokens of a text that is no longer than what can be typed. */
        void keepTokens(char[] source, int length) {
            textLength = 0;
            boolean blankBefore = false;
            for (int i = 0; i < length && i < source.length && i < MOST_TYPED; i++) {
                boolean blank = source[i] == ' ';
                if (!blank && blankBefore && textLength > 0) {
                    text[textLength] = ' ';
                    textLength++;
                }
                if (!blank) {
                    text[textLength] = source[i];
                    textLength++;
                }
                blankBefore = blank;
            }
        }

        boolean covers(int minute) {
            return kind == FORECAST && minute >= groups[0].begin && minute < groups[0].end;
        }

        int teller(int minute, int part) {
            int teller = 0;
            for (int g = 1; g < groupCount && g < MOST_GROUPS; g++) {
                if (groups[g].holdsAt(minute) && groups[g].tells(part)) {
                    teller = g;
                }
            }
            return teller;
        }

        int countActive(int minute) {
            int count = 0;
            for (int g = 1; g < groupCount && g < MOST_GROUPS; g++) {
                if (groups[g].isActiveAt(minute)) {
                    count++;
                }
            }
            return count;
        }

        int findActive(int minute, int wanted) {
            int count = 0;
            for (int g = 1; g < groupCount && g < MOST_GROUPS; g++) {
                if (groups[g].isActiveAt(minute)) {
                    if (count == wanted) {
                        return g;
                    }
                    count++;
                }
            }
            return NONE;
        }

        int leastVisibility(int minute) {
            int least = groups[teller(minute, VISIBILITY)].visibility;
            for (int g = 1; g < groupCount && g < MOST_GROUPS; g++) {
                if (groups[g].isActiveAt(minute) && groups[g].tells(VISIBILITY)) {
                    least = Math.min(least, groups[g].visibility);
                }
            }
            return least;
        }

        int lowestCeiling(int minute, boolean withActive) {
            int lowest = groups[teller(minute, CLOUDS)].lowerCeiling(NO_CEILING);
            for (int g = 1; g < groupCount && g < MOST_GROUPS; g++) {
                if (withActive && groups[g].isActiveAt(minute)) {
                    lowest = groups[g].lowerCeiling(lowest);
                }
            }
            return lowest;
        }

        int nextTurn(int minute) {
            int nearest = NONE;
            for (int g = 1; g < groupCount && g < MOST_GROUPS; g++) {
                nearest = nearerTurn(minute, nearest, groups[g].begin);
                nearest = nearerTurn(minute, nearest, groups[g].end);
            }
            return nearest;
        }

        int nearerTurn(int minute, int nearest, int candidate) {
            boolean nearer = candidate > minute && (nearest == NONE || candidate < nearest);
            return nearer && covers(candidate) && isTurn(candidate) ? candidate : nearest;
        }

        /** Not each beginning and end is one: a later FM may hide it, and a BECMG's beginning does nothing. */
        boolean isTurn(int minute) {
            for (int part = 0; part < PARTS; part++) {
                if (teller(minute, part) != teller(minute - 1, part)) {
                    return true;
                }
            }
            for (int g = 1; g < groupCount && g < MOST_GROUPS; g++) {
                if (groups[g].isActiveAt(minute) != groups[g].isActiveAt(minute - 1)) {
                    return true;
                }
            }
            return false;
        }

        /** Groups take turns at beginnings and ends alone, so these stand for all minutes between. */
        boolean eachMinuteTells() {
            for (int g = 0; g < groupCount && g < MOST_GROUPS; g++) {
                if (covers(groups[g].begin) && !minuteTells(groups[g].begin)) {
                    return false;
                }
                if (covers(groups[g].end) && !minuteTells(groups[g].end)) {
                    return false;
                }
            }
            return true;
        }

        boolean minuteTells(int minute) {
            for (int part = 0; part < PARTS; part++) {
                if (!groups[teller(minute, part)].tells(part)) {
                    return false;
                }
            }
            for (int g = 1; g < groupCount && g < MOST_GROUPS; g++) {
                if (groups[g].isActiveAt(minute) && !groups[g].tellsSomething()) {
                    return false;
                }
            }
            return true;
        }

        boolean sameAs(Bulletin other) {
            return kind == other.kind && days == other.days && issue == other.issue
                    && temperature == other.temperature && dewPoint == other.dewPoint
                    && pressure == other.pressure
                    && Group.sameStart(station, other.station, STATION_LETTERS)
                    && sameGroups(other) && sameText(other);
        }

        boolean sameGroups(Bulletin other) {
            if (groupCount != other.groupCount) {
                return false;
            }
            for (int g = 0; g < groupCount && g < MOST_GROUPS; g++) {
                if (!groups[g].sameAs(other.groups[g])) {
                    return false;
                }
            }
            return true;
        }

        boolean sameText(Bulletin other) {
            if (textLength != other.textLength) {
                return false;
            }
            for (int i = 0; i < textLength && i < MOST_TYPED; i++) {
                if (text[i] != other.text[i]) {
                    return false;
                }
            }
            return true;
        }
    }

    /**
     * Reads a text token by token. A method that takes tokens goes past those that can stand, and
     * leaves the first one that can't as the token at hand, where the next method tries it.
     */
    private static final class Reader {
        private static final String FIRST_PAIRS = "MIBCPRDRBLSHTSFZ";
        private static final String OTHER_PAIRS = "DZRASNSGPLGRGSBRFGFUVADUSAHZPOSQFCSSDS";
        private static final int THUNDER = 6;
        private static final String AMOUNTS = "FEWSCTBKNOVC";
        private static final int VERTICAL = 5;
        private static final int CAVOK_VISIBILITY = 10000;
        /** More than the longest token that can stand has. */
        private static final int TOKEN_ROOM = 16;

        private char[] source = new char[0];
        private int length = 0;
        private int tokenBegin = 0;
        /** 0 when the text has ended. */
        private int width = 0;
        /** The characters of the token at hand, and 0 behind them. */
        private final char[] token = new char[TOKEN_ROOM];
        private int days = 0;
        private int latestFrom = NONE;
        /** What is being read: a text that can't stand must leave the kept one as it was. */
        Bulletin draft = new Bulletin();

        /** Hands out what was read, and takes one that is not kept any more to read into. */
        Bulletin exchange(Bulletin spare) {
            Bulletin read = draft;
            draft = spare;
            return read;
        }

        /** 0, or the place of the first token that can't stand. */
        int readText(char[] text, int textLength, int monthDays) {
            source = text;
            length = Math.min(textLength, text.length);
            days = monthDays;
            latestFrom = NONE;
            draft.start(monthDays);
            tokenBegin = 0;
            width = 0;
            takeToken();
            boolean stands = takeHead() && (draft.kind == REPORT ? takeReport() : takeForecast());
            if (!stands || width > 0) {
                return tokenBegin + 1;
            }
            draft.keepTokens(source, length);
            return 0;
        }

        private boolean takeHead() {
            if (takeWord("METAR")) {
                draft.kind = REPORT;
            } else if (takeWord("TAF")) {
                draft.kind = FORECAST;
            } else {
                return false;
            }
            return takeStation() && takeIssue();
        }

        private boolean takeReport() {
            return takeWhole(draft.groups[0]) && takeTemperatures() && takePressure();
        }

        private boolean takeForecast() {
            if (!takeForecastPeriod(draft.groups[0]) || !takeWhole(draft.groups[0])) {
                return false;
            }
            boolean stands = true;
            for (int g = 1; g < MOST_GROUPS && width > 0 && stands; g++) {
                draft.addGroup();
                Group change = draft.groups[g];
                stands = takeFromTime(change)
                        ? takeWhole(change)
                        : takeChangeName(change) && takeChangePeriod(change) && takeParts(change);
            }
            return stands;
        }

        private boolean takeChangeName(Group change) {
            if (takeWord("BECMG")) {
                change.kind = BECOMING;
                return true;
            }
            if (takeWord("TEMPO")) {
                change.kind = TEMPORARY;
                return true;
            }
            if (takeWord("PROB30")) {
                change.chance = 30;
            } else if (takeWord("PROB40")) {
                change.chance = 40;
            } else {
                return false;
            }
            change.kind = takeWord("TEMPO") ? PROBABLE_TEMPORARY : PROBABLE;
            return true;
        }

        /** WIND and SKY, of which nothing but weather may be missing. */
        private boolean takeWhole(Group group) {
            if (!takeWind(group)) {
                return false;
            }
            if (takeCavok(group)) {
                return true;
            }
            if (!takeVisibility(group)) {
                return false;
            }
            group.weatherCount = 0;
            takeWeathers(group);
            return takeClouds(group);
        }

        /** PARTS, each of which may be missing, but not all. */
        private boolean takeParts(Group group) {
            takeWind(group);
            if (takeCavok(group)) {
                return true;
            }
            takeVisibility(group);
            if (takeWord("NSW")) {
                group.weatherCount = 0;
            } else {
                takeWeathers(group);
            }
            takeClouds(group);
            return group.tellsSomething();
        }

        private boolean takeStation() {
            if (width != STATION_LETTERS) {
                return false;
            }
            for (int i = 0; i < STATION_LETTERS; i++) {
                if (token[i] < 'A' || token[i] > 'Z') {
                    return false;
                }
                draft.station[i] = token[i];
            }
            return takeToken();
        }

        private boolean takeIssue() {
            draft.issue = timeAt(0);
            return width == 7 && token[6] == 'Z' && draft.issue != NONE && takeToken();
        }

        private boolean takeTemperatures() {
            int cut = token[0] == 'M' ? 3 : 2;
            int end = token[cut + 1] == 'M' ? cut + 4 : cut + 3;
            draft.temperature = degreesAt(0);
            draft.dewPoint = degreesAt(cut + 1);
            return width == end && token[cut] == '/' && draft.temperature != NOT_TOLD
                    && draft.dewPoint != NOT_TOLD && takeToken();
        }

        private boolean takePressure() {
            draft.pressure = digits(1, 4);
            return width == 5 && token[0] == 'Q' && draft.pressure != NONE && takeToken();
        }

        private boolean takeForecastPeriod(Group forecast) {
            int issueDay = draft.issue - draft.issue % DAY;
            return findPeriod(forecast, issueDay)
                    && forecast.end - forecast.begin <= LONGEST_PERIOD && takeToken();
        }

        private boolean takeChangePeriod(Group change) {
            Group forecast = draft.groups[0];
            return findPeriod(change, forecast.begin)
                    && change.begin >= forecast.begin && change.end <= forecast.end && takeToken();
        }

        /** The token's period; one that would begin before the earliest minute is the next month's. */
        private boolean findPeriod(Group group, int earliest) {
            int begin = hourAt(0, 23);
            int end = hourAt(5, 24);
            if (width != 9 || token[4] != '/' || begin == NONE || end == NONE) {
                return false;
            }
            boolean nextMonth = begin < earliest;
            group.begin = nextMonth ? begin + days * DAY : begin;
            group.end = nextMonth || end <= begin ? end + days * DAY : end;
            return group.end > group.begin;
        }

        private boolean takeFromTime(Group change) {
            Group forecast = draft.groups[0];
            int time = timeAt(2);
            if (width != 8 || !holds(0, "FM") || time == NONE) {
                return false;
            }
            if (time < forecast.begin) {
                time += days * DAY;
            }
            if (time < forecast.begin || time >= forecast.end || time <= latestFrom) {
                return false;
            }
            latestFrom = time;
            change.kind = FROM;
            change.begin = time;
            change.end = forecast.end;
            return takeToken();
        }

        private boolean takeWind(Group group) {
            boolean variable = holds(0, "VRB");
            int direction = digits(0, 3);
            boolean steady = direction != NONE && direction <= 360 && direction % 10 == 0;
            int speed = digits(3, 2);
            boolean gusty = token[5] == 'G';
            int gusts = gusty ? digits(6, 2) : 0;
            int unit = gusty ? 8 : 5;
            if (!variable && !steady || speed == NONE || gusty && gusts <= speed) {
                return false;
            }
            if (!holds(unit, "KT") || width != unit + 2) {
                return false;
            }
            group.direction = variable ? VARIABLE : direction;
            group.speed = speed;
            group.gusts = gusts;
            return takeToken();
        }

        private boolean takeCavok(Group group) {
            if (!takeWord("CAVOK")) {
                return false;
            }
            group.visibility = CAVOK_VISIBILITY;
            group.weatherCount = 0;
            group.cloudCount = 0;
            return true;
        }

        private boolean takeVisibility(Group group) {
            int visibility = digits(0, 4);
            if (width != 4 || visibility == NONE) {
                return false;
            }
            group.visibility = visibility;
            return takeToken();
        }

        private void takeWeathers(Group group) {
            for (int i = 0; i < MOST_WEATHERS; i++) {
                int number = weatherNumber();
                if (number == NONE) {
                    return;
                }
                group.addWeather(number);
                takeToken();
            }
        }

        private int weatherNumber() {
            int number = signNumber();
            int at = number == 0 ? 0 : number == 3 ? 2 : 1;
            int first = pairAt(at, FIRST_PAIRS);
            if (first != NONE) {
                number += 4 * (first + 1);
                at += 2;
            }
            int others = 0;
            int unit = 64;
            while (others < 3 && at < width) {
                int other = pairAt(at, OTHER_PAIRS);
                if (other == NONE) {
                    return NONE;
                }
                number += unit * (other + 1);
                unit *= 32;
                at += 2;
                others++;
            }
            boolean enough = others > 0 || first == THUNDER;
            return enough && at == width ? number : NONE;
        }

        private int signNumber() {
            if (token[0] == '-') {
                return 1;
            }
            if (token[0] == '+') {
                return 2;
            }
            return token[0] == 'V' && token[1] == 'C' ? 3 : 0;
        }

        private boolean takeClouds(Group group) {
            if (takeWord("NSC")) {
                group.cloudCount = 0;
                return true;
            }
            int height = digits(2, 3);
            if (holds(0, "VV") && width == 5 && height != NONE) {
                group.addCloud(VERTICAL + 8 * height);
                return takeToken();
            }
            int lowest = 0;
            for (int i = 0; i < MOST_CLOUDS; i++) {
                int number = layerNumber();
                if (number == NONE || Group.heightOf(number) < lowest) {
                    return i > 0;
                }
                lowest = Group.heightOf(number);
                group.addCloud(number);
                takeToken();
            }
            return true;
        }

        private int layerNumber() {
            int height = digits(3, 3);
            boolean storm = width == 8 && holds(6, "CB");
            boolean tower = width == 9 && holds(6, "TCU");
            if (height == NONE || width != 6 && !storm && !tower) {
                return NONE;
            }
            int tail = storm ? 1 : tower ? 2 : 0;
            for (int i = 0; i + 2 < AMOUNTS.length(); i += 3) {
                if (token[0] == AMOUNTS.charAt(i) && token[1] == AMOUNTS.charAt(i + 1)
                        && token[2] == AMOUNTS.charAt(i + 2)) {
                    return i / 3 + 1 + 8 * height + 8192 * tail;
                }
            }
            return NONE;
        }

        /** Day, hour and minute as a minute of the issue's month, or NONE. */
        private int timeAt(int from) {
            int hour = hourAt(from, 23);
            int minute = digits(from + 4, 2);
            return hour == NONE || minute == NONE || minute > 59 ? NONE : hour + minute;
        }

        /** Day and hour as a minute of the issue's month, or NONE. */
        private int hourAt(int from, int latestHour) {
            int day = digits(from, 2);
            int hour = digits(from + 2, 2);
            if (day < 1 || day > days || hour == NONE || hour > latestHour) {
                return NONE;
            }
            return (day - 1) * DAY + hour * HOUR;
        }

        private int degreesAt(int from) {
            boolean below = holds(from, "M");
            int number = digits(below ? from + 1 : from, 2);
            if (number == NONE) {
                return NOT_TOLD;
            }
            return below ? -number : number;
        }

        private int digits(int from, int count) {
            if (from < 0 || from + count > TOKEN_ROOM) {
                return NONE;
            }
            int number = 0;
            for (int i = from; i < from + count; i++) {
                if (token[i] < '0' || token[i] > '9') {
                    return NONE;
                }
                number = number * 10 + (token[i] - '0');
            }
            return number;
        }

        private int pairAt(int from, String pairs) {
            if (from < 0 || from + 2 > TOKEN_ROOM) {
                return NONE;
            }
            for (int i = 0; i + 1 < pairs.length(); i += 2) {
                if (token[from] == pairs.charAt(i) && token[from + 1] == pairs.charAt(i + 1)) {
                    return i / 2;
                }
            }
            return NONE;
        }

        private boolean holds(int from, String word) {
            if (from < 0 || from + word.length() > TOKEN_ROOM) {
                return false;
            }
            for (int i = 0; i < word.length(); i++) {
                if (token[from + i] != word.charAt(i)) {
                    return false;
                }
            }
            return true;
        }

        private boolean takeWord(String word) {
            return width == word.length() && holds(0, word) && takeToken();
        }

        /** Goes on to the next token; always true, so that it can end a row of conditions. */
        private boolean takeToken() {
            int begin = tokenBegin + width;
            while (begin < length && source[begin] == ' ') {
                begin++;
            }
            int end = begin;
            while (end < length && source[end] != ' ') {
                end++;
            }
            tokenBegin = begin;
            width = end - begin;
            for (int i = 0; i < TOKEN_ROOM; i++) {
                token[i] = i < width ? source[begin + i] : 0;
            }
            return true;
        }
    }
}
