/** Promise 9 (compare), with the terms VERSION, PARTS and ORDER. */
public final class VersionTest {
    public static void main(String[] args) {
        equal();
        ordered();
        wrong();
        Due.end();
    }

    private static void equal() {
        String[] pairs = {
            "1:1", "1:1.0", "1:1-0", "1.0.0-0:1", "01:1", "1.00:1", "1a:1.a", "1-a:1a", "1a1:1.a-1", "1a:1a0", "1a0.0:1a",
            "0:0.0", "000000000001:1", "999999999999:999999999999", "1abcdefghijk:1abcdefghijk",
            "1a1a1a1a1a1:1.a1a1a1a1a1", "1a1a1a1a1a1a:1a1a1a1a1a1a"};
        for (String pair : pairs) {
            Due.due("compare " + pair, new Run().compare(pair), 3);
        }
    }

    private static void ordered() {
        String[] below = {
            "1:2", "9:10", "1.9:1.10", "1:1.0.1", "1a:1", "1a:1.0", "1-a:1.0.a", "1.x:1.0", "1a:1b", "1a:1ab", "1ab:1b",
            "1az:1b", "1z9:1z10", "1z:1z1", "1z:1za", "1aa:1ab", "1zzzzzzzzzzz:1", "1zzzzzzzzzzz:1.0", "1a:1zzzzzzzzzzz",
            "1zzzzzzzzzzy:1zzzzzzzzzzz", "1zzzzzzzzzz:1zzzzzzzzzzz", "2147483647:2147483648", "4294967296:4294967297",
            "1:4294967296", "999999999998:999999999999", "1:999999999999", "0a:0", "0:0.0.0.0.0.1", "1.0.0.0.0a:1",
            "1a1a1a1a1a1a:1a1a1a1a1a1", "1a1a1a1a1a1a:1a1a1a1a1a1b", "1a.0.a:1a", "1rc:1", "1beta:1rc", "1alpha:1beta"};
        for (String pair : below) {
            int colon = pair.indexOf(':');
            String turned = pair.substring(colon + 1) + ":" + pair.substring(0, colon);
            Due.due("compare " + pair, new Run().compare(pair), 2);
            Due.due("compare " + turned, new Run().compare(turned), 4);
        }
    }

    private static void wrong() {
        String[] bad = {
            "", ":", "1", "1:", ":1", "1:1:", ":1:1", "1:1:1", "1::1", "a:1", "1:a", "a1:1", ".1:1", "-1:1", "1:.1", "1:-1",
            "1.:1", "1-:1", "1:1.", "1:1-", "1..2:1", "1--2:1", "1.-2:1", "1-.2:1", "1:1..2", "1:1-.2", "1234567890123:1",
            "1:1234567890123", "1A:1", "1:1Z", "1 :1", "1: 1", "1_0:1", "1,0:1", "1:[1]", "1:1 ", " 1:1", "1/1", "1;1",
            "1{:1", "1`:1", "1\u00e9:1", "1\0:1"};
        for (String line : bad) {
            Due.due("compare " + line, new Run().compare(line), -3);
        }
        Due.due("compare with 12 characters", new Run().compare("123456789012:1234567890.1"), 4);
    }
}
