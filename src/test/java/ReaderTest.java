import java.util.ArrayList;
import java.util.Collections;
import java.util.List;
import java.util.Random;
import java.util.regex.Matcher;
import java.util.regex.Pattern;

/** Promise 13 once more: texts with random faults, against the document's forms written as patterns. */
final class ReaderTest {
    private static final Pattern HEAD = Pattern.compile("(?:(?:INVITE|ACK|BYE) sip:[01] SIP/2\\.0"
            + "|SIP/2\\.0 (?:180 Ringing|200 OK|486 Busy|481 Gone))\n"
            + "(?:(?:Via: SIP/2\\.0/UDP [01];branch=z9hG4bK\\d+|From: <sip:[01]>;tag=\\d+|To: <sip:[01]>(?:;tag=\\d+)?"
            + "|Call-ID: \\d+|CSeq: \\d+ (?:INVITE|ACK|BYE)|Content-Length: \\d+)\n){6}\n");
    private static final Pattern BODY = Pattern.compile("(?:m=\\d+(?: [0-7]){1,8}\n){0,3}");
    private static final Pattern NUMBER = Pattern.compile("(?<=z9hG4bK|;tag=|Call-ID: |CSeq: |Length: )\\d+");
    private static final Pattern PORT = Pattern.compile("(?<=m=)\\d+");
    private static final Pattern HEADER = Pattern.compile(
            "(?<=\n)(?:Via|From|To|Call-ID|CSeq|Content-Length): ");
    private static final Pattern CSEQ = Pattern.compile("(?<=\nCSeq: )\\d+ (INVITE|ACK|BYE)");
    private static final Pattern LENGTH = Pattern.compile("(?<=\nContent-Length: )\\d+");

    public static void main(String[] args) {
        int wrong = 0;
        for (int seed = 0; seed < 40000; seed++) {
            Random random = new Random(seed);
            String text = edited(message(random), random);
            int fault = firstFault(text);
            wrong += fault < 0 ? 0 : 1;
            Check.due("inject of\n" + text, Check.inject(new CallAgents(), random.nextInt(2), text), fault < 0 ? 0 : -10 - fault);
        }
        Check.due("both kinds of texts were tried", wrong > 10000 && wrong < 30000, true);
        Check.finish("ReaderTest");
    }

    private static String message(Random random) {
        String[] methods = {"INVITE", "ACK", "BYE"};
        String[] statuses = {"180 Ringing", "200 OK", "486 Busy", "481 Gone"};
        String method = methods[random.nextInt(3)];
        boolean request = random.nextBoolean();
        String body = "";
        for (int lines = random.nextInt(4); lines > 0; lines--) {
            body += "m=" + random.nextInt(random.nextBoolean() ? 65536 : 10);
            for (int formats = 1 + random.nextInt(8); formats > 0; formats--) {
                body += " " + random.nextInt(8);
            }
            body += "\n";
        }
        List<String> headers = new ArrayList<>(List.of("Via: SIP/2.0/UDP 0;branch=z9hG4bK" + random.nextInt(1000000000),
                "From: <sip:1>;tag=" + random.nextInt(100), "To: <sip:0>" + (random.nextBoolean() ? "" : ";tag=0"),
                "Call-ID: " + random.nextInt(30), "CSeq: " + random.nextInt(20) + " " + method,
                "Content-Length: " + body.length()));
        if (random.nextBoolean()) {
            Collections.shuffle(headers, random);
        }
        if (random.nextInt(10) == 0) {
            headers.set(random.nextInt(6), headers.get(random.nextInt(6)));
        }
        String start = request ? method + " sip:1 SIP/2.0" : "SIP/2.0 " + statuses[random.nextInt(4)];
        return start + "\n" + String.join("\n", headers) + "\n\n" + body;
    }

    private static String edited(String message, Random random) {
        StringBuilder text = new StringBuilder(message);
        for (int edits = random.nextInt(3); edits > 0; edits--) {
            int place = random.nextInt(text.length());
            char sign = message.charAt(random.nextInt(message.length()));
            switch (random.nextInt(6)) {
                case 0 -> text.deleteCharAt(place);
                case 1 -> text.insert(place, sign);
                case 2 -> text.setCharAt(place, sign);
                case 3 -> text.insert(place, random.nextInt(12));
                case 4 -> text.setLength(place + 1);
                default -> text.delete(place, Math.min(text.length(), place + random.nextInt(12)));
            }
        }
        return text.toString();
    }

    /** The number of the first wrong sign, or -1: the least of those that each rule of the document tells. */
    private static int firstFault(String text) {
        Matcher head = HEAD.matcher(text);
        boolean whole = head.lookingAt();
        int end = whole ? head.end() : fitting(HEAD, text);
        String read = text.substring(0, end);
        int fault = whole ? Integer.MAX_VALUE : end;
        fault = Math.min(fault, badNumber(NUMBER, read, 999999999));
        fault = Math.min(fault, doubled(read));
        fault = Math.min(fault, otherMethod(read));
        if (fault == Integer.MAX_VALUE) {
            fault = bodyFault(text, end);
        }
        return fault == Integer.MAX_VALUE ? -1 : fault;
    }

    /** How many signs of a text can be the beginning of what a pattern says. */
    private static int fitting(Pattern pattern, String text) {
        for (int length = text.length(); length > 0; length--) {
            Matcher matcher = pattern.matcher(text.substring(0, length));
            if (matcher.matches() || matcher.hitEnd()) {
                return length;
            }
        }
        return 0;
    }

    private static int badNumber(Pattern pattern, String read, long highest) {
        Matcher numbers = pattern.matcher(read);
        while (numbers.find()) {
            String digits = numbers.group();
            if (digits.length() > 9 || digits.matches("0.+") || Long.parseLong(digits) > highest) {
                return numbers.start();
            }
        }
        return Integer.MAX_VALUE;
    }

    private static int doubled(String read) {
        List<String> seen = new ArrayList<>();
        Matcher headers = HEADER.matcher(read);
        while (headers.find()) {
            if (seen.contains(headers.group())) {
                return headers.start();
            }
            seen.add(headers.group());
        }
        return Integer.MAX_VALUE;
    }

    private static int otherMethod(String read) {
        Matcher cseq = CSEQ.matcher(read);
        while (cseq.find()) {
            if (!read.startsWith("SIP") && !read.startsWith(cseq.group(1))) {
                return cseq.start(1);
            }
        }
        return Integer.MAX_VALUE;
    }

    private static int bodyFault(String text, int start) {
        Matcher length = LENGTH.matcher(text);
        length.find();
        int said = Integer.parseInt(length.group());
        String body = text.substring(start, Math.min(text.length(), start + said));
        int fault = badNumber(PORT, body, 65535);
        if (fault != Integer.MAX_VALUE) {
            return start + Math.min(fault, fitting(BODY, body));
        }
        if (!BODY.matcher(body).matches()) {
            return start + fitting(BODY, body);
        }
        return start + said == text.length() ? Integer.MAX_VALUE : start + body.length();
    }
}
