/** Promise 6: text items, regex and replacement, sentence by sentence. */
public final class TextItemTest {
    private static final String TWELVE_STARRED = "1*2*3*4*5*6*7*8*9*0*1*2*";

    public static void main(String[] args) {
        escapedItems();
        slashEndsTheText();
        newlineInTheText();
        backslashAtTheEnd();
        endBeforeTheSlash();
        startAnchor();
        endAnchor();
        anyCharAtom();
        starredAtom();
        starredTwice();
        starWithNoAtom();
        literalAtom();
        emptyItemList();
        tooManyAtoms();
        matchedChars();
        ownChars();
        emptyReplacement();
        Check.finish();
    }

    /** Checks which of the lines are matched: those are printed. */
    private static void prints(String regex, String lines, String want) {
        Feed.dueQuiet("/" + regex + "/p", lines, want);
    }

    private static void escapedItems() {
        Check.sentence("char 92 followed by a char x gives the escaped item x, "
                + "except that an escaped 'n' gives the escaped item 10;");
        for (char c = 32; c <= 126; c++) {
            if (c != 'n') {
                char other = c == '#' ? '%' : '#';
                prints("^\\" + c + "$", other + "\n" + c + "\n" + c + c + "\n\n", c + "\n");
                Feed.dueOutput("s/x/\\" + c + "/", "x", c + "\n");
            }
        }
        Feed.dueQuiet("N;/a\\nb/p", "a\nb", "a\nb\n");
        Feed.dueQuiet("N;/anb/p", "a\nb", "");
        prints("\\n", "n", "");
        prints("a\\\\n", "a\\n\nan", "a\\n\n");
        Feed.dueOutput("s/x/\\n/", "x", "\n\n");
        Feed.dueOutput("s/x/n/", "x", "n\n");
        Feed.dueOutput("s/x/\\\\n/", "x", "\\n\n");
        Scripts.accepted(1, "/\\//p", "s/\\//\\//", "/\\\\/p", "s/a/\\\\/", "/\\n/p", "s/a/\\n/", "/\\a/p", "/\\ /p", "s/a/\\&/");
    }

    private static void slashEndsTheText() {
        Check.sentence("an unescaped '/' ends the text; any other char c gives the unescaped item c.");
        Scripts.accepted(1, "1,/\\//p", "s/a\\/b/c/", "s/a/b\\/c/g", "/;/p", "/!/p", "s/,/!/", "s/ /  /", "/g/g", "/\\\\/p");
        Scripts.rejected("/a/b/p", "s/a/b/c/", "s/a//b/", "/\\\\//p", "s/a\\\\/b/c/", "s/a/b/\\/");
        prints("\\/", "a/b\nab", "a/b\n");
        Feed.dueOutput("s/;/ /", "a;b", "a b\n");
        Feed.dueOutput("s/b/\\//", "abc", "a/c\n");
    }

    private static void newlineInTheText() {
        Check.sentence("A char 10 met anywhere in the text (also right after a char 92), [..] is an error.");
        Scripts.rejected("/\n/p", "/a\n/p", "/\na/p", "/a\nb/p", "/\\\n/p", "/a\\\n/p", "/a\\\nb/p", "/\\\\\n/p");
        Scripts.rejected("1,/\n/p", "1,/a\n/p", "1,/\\\n/p", "s/\n/b/", "s/a\n/b/", "s/\\\n/b/", "s/a\\\n/b/");
        Scripts.rejected("s/a/\n/", "s/a/b\n/", "s/a/\\\n/", "s/a/b\\\n/", "s/a/b\\\nc/", "s/a/\\\\\n/", "/\n", "/a\\\n", "s/a/\n", "s/a/\\\n");
        Scripts.accepted(1, "/a/p\n", "\n/a/p", "s/a/b/\n", "/\\n/p", "s/\\n/\\n/");
    }

    private static void backslashAtTheEnd() {
        Check.sentence("a char 92 that is the script's last char, [..] is an error.");
        Scripts.rejected("/\\", "/a\\", "1,/\\", "1,/a\\", "s/\\", "s/a\\", "s/a/\\", "s/a/b\\", "s/a/\\\\\\", "/\\/\\");
        Scripts.rejected("/" + "a".repeat(126) + "\\", "s/a/" + "b".repeat(123) + "\\", "\\", "p\\", "s/a/b/\\");
        Scripts.accepted(1, "s/a/\\\\/", "/\\\\/p");
    }

    private static void endBeforeTheSlash() {
        Check.sentence("or the end of the script before the closing '/', is an error.");
        Scripts.rejected("/", "/a", "/\\/", "/a\\/", "1,/", "1,/a", "1,/a\\/", "s/", "s/a", "s/a\\/", "s/a/", "s/a/b", "s/a/b\\/");
        Scripts.rejected("/a/,/", "/a/,/b", "s/a/\\&", "/" + "a".repeat(127), "s/" + "a".repeat(126), "s/a/" + "b".repeat(124));
        Scripts.rejected("/ ", "/p", "s/a/b g", "/a;p", "s/a/b;p");
        Scripts.accepted(1, "s/a/" + "b".repeat(123) + "/", "s/" + TWELVE_STARRED + "/" + "b".repeat(100) + "/");
    }

    private static void startAnchor() {
        Check.sentence("if the first item is an unescaped '^' it is the start anchor;");
        prints("^a", "ab\nba\n^a", "ab\n");
        prints("^", "x\n\n", "x\n\n");
        prints("\\^a", "a\nb^a", "b^a\n");
        prints("a^", "xa^\na", "xa^\n");
        prints("^^", "^x\na\nx^", "^x\n");
        prints("a^b", "ab\na^b", "a^b\n");
        prints("^a^*$", "a^^\naa", "a^^\n");
        Scripts.accepted(1, "/^/p", "/^^/p", "s/^/a/", "1,/^/p", "/\\^/p");
    }

    private static void endAnchor() {
        Check.sentence("if the last item is an unescaped '$' and is not the start anchor, it is the end anchor.");
        prints("a$", "ba\nab\na$", "ba\n");
        prints("$", "x\n\n", "x\n\n");
        prints("^$", "x\n\n", "\n");
        prints("a\\$", "a\na$b", "a$b\n");
        prints("$a", "$ab\na", "$ab\n");
        prints("a$b", "ab\na$b", "a$b\n");
        prints("$$", "a$\n$a\na", "a$\n");
        prints("^$*$", "$$$\n\na$", "$$$\n\n");
        prints("\\^$", "a^\n^a", "a^\n");
        prints("a*$", "aab\n", "aab\n");
        Scripts.accepted(1, "/$/p", "/^$/p", "/$$/p", "/$*/p", "/^a$b$/p", "/a*$/p", "/\\$/p");
    }

    private static void anyCharAtom() {
        Check.sentence("an unescaped '.' is an any-char atom;");
        prints("a.c", "xabcx\nac\na.c", "xabcx\na.c\n");
        prints("a\\.c", "abc\na.c", "a.c\n");
        prints(".", "\na", "a\n");
        Feed.dueQuiet("N;/a.b/p", "a\nb", "a\nb\n");
        prints("^.*$", "\nab", "\nab\n");
    }

    private static void starredAtom() {
        Check.sentence("an unescaped '*' right after an atom that is not starred makes that atom starred;");
        prints("^ab*c$", "ac\nabbbc\nabxc\nab*c", "ac\nabbbc\n");
        prints("^\\**$", "***\n\na", "***\n\n");
        prints("^a\\**$", "a**\naa\na", "a**\na\n");
        prints("^\\.*$", "..\nab\n", "..\n");
        prints("^\\n*$", "\nn", "\n");
        prints("^$*a$", "$$a\na\nba", "$$a\na\n");
        Feed.dueQuiet("N;N;/a\\n*b/p", "a\n\nb", "a\n\nb\n");
        Scripts.accepted(1, "/a*/p", "/.*/p", "/a*b*/p", "/\\**/p", "/a\\**/p", "/a*\\*/p", "/a*\\**/p", "/$*/p", "/^$*/p", "/\\n*/p");
    }

    private static void starredTwice() {
        Check.sentence("an unescaped '*' right after a starred atom is an error;");
        Scripts.rejected("/a**/p", "/.**/p", "/\\***/p", "/a*b**/p", "/\\n**/p", "/a***/p", "/$**/p", "/^a**/p", "/a**$/p");
        Scripts.rejected("s/a**/b/", "1,/a**/p", "/a**b/p", "/***/p", "/^***/p", "/" + TWELVE_STARRED + "*/p", "/a**", "s/a**/b");
        Scripts.accepted(1, "/a*\\*/p", "/a*b*/p", "/\\**/p", "/**/p", "s/a/**/", "s/a/***/");
    }

    private static void starWithNoAtom() {
        Check.sentence("an unescaped '*' with no atom before it is a literal atom for '*';");
        prints("*", "a*\naa\n", "a*\n");
        prints("^*a", "*a\na\nb*a", "*a\n");
        prints("^**a", "***a\na\nb*a", "***a\na\n");
        prints("**a", "b*a\na", "b*a\na\n");
        prints("^*$", "*\n\n^", "*\n");
        prints("^**$", "**\n\na", "**\n\n");
        Scripts.accepted(1, "/*/p", "/^*/p", "/**/p", "/^**/p", "/^*$/p", "/*12345678901/p");
        Scripts.rejected("/*123456789012/p", "/^*123456789012/p");
    }

    private static void literalAtom() {
        Check.sentence("every other item is a literal atom for its char.");
        for (char c = 32; c <= 126; c++) {
            if ("/\\.*^$".indexOf(c) < 0) {
                char other = c == '#' ? '%' : '#';
                prints("^" + c + "$", other + "\n" + c + "\n" + c + c + "\n\n", c + "\n");
            }
        }
        prints("[a]", "[a]\na", "[a]\n");
        prints("a+", "aa\na+", "a+\n");
        prints("a|b", "a\na|b", "a|b\n");
        prints("\\t", "t\n ", "t\n");
        prints("&", "&\na", "&\n");
        prints("a", "A\nb", "");
    }

    private static void emptyItemList() {
        Check.sentence("An empty item list, [..] is an error.");
        Scripts.rejected("//p", "//", "1,//p", "//,1p", "/a/,//p", "s//a/", "s///", "s//a/g", "//!p", "// p");
        Scripts.accepted(1, "/^/p", "/$/p", "/^$/p", "/ /p", "/\\//p", "s/ //");
    }

    private static void tooManyAtoms() {
        Check.sentence("more than 12 atoms, is an error.");
        for (String twelve : new String[] {"123456789012", "^123456789012", "123456789012$", "^123456789012$", TWELVE_STARRED,
            "^" + TWELVE_STARRED + "$", "............", ".*".repeat(12), "\\.".repeat(12), "*12345678901", "**12345678901",
            "^*12345678901", "\\n".repeat(12), "12345678901^", "$12345678901", "$".repeat(13), "^".repeat(13), "12345678901\\$"}) {
            Scripts.accepted(1, "/" + twelve + "/p", "1,/" + twelve + "/p", "s/" + twelve + "/x/", "s/a/1" + twelve + "/");
            dueOneAtomMore(twelve);
        }
        Scripts.accepted(1, "s/a/" + "1".repeat(13) + "/", "/12345678901/p", "/1/p");
        Scripts.accepted(2, "/123456789012/p;/123456789012/p", "/1234567/p;/1234567/p");
        prints("123456789012", "0123456789012\n123456789011", "0123456789012\n");
        prints("^" + TWELVE_STARRED + "$", "122233344455\n213", "122233344455\n");
    }

    /** An atom in the middle would part a '*' from what it stars, so the thirteenth stands at an end. */
    private static void dueOneAtomMore(String twelve) {
        boolean anchored = twelve.endsWith("$") && !twelve.endsWith("\\$");
        String thirteen = anchored ? twelve.substring(0, twelve.length() - 1) + "\\x$" : twelve + "\\x";
        String starred = anchored ? twelve.substring(0, twelve.length() - 1) + "\\x*$" : twelve + "\\x*";
        Scripts.rejected("/" + thirteen + "/p", "1,/" + thirteen + "/p", "s/" + thirteen + "/x/", "/" + thirteen + "/");
        Scripts.rejected("/" + starred + "/p", "s/" + starred + "/x/g");
    }

    private static void matchedChars() {
        Check.sentence("an unescaped '&' stands for the matched chars;");
        Feed.dueOutput("s/b/&&/", "abc", "abbc\n");
        Feed.dueOutput("s/b.*/<&;&>/", "abc", "a<bc;bc>\n");
        Feed.dueOutput("s/b/&/", "abc", "abc\n");
        Feed.dueOutput("s/x*/[&]/", "abc", "[]abc\n");
        Feed.dueOutput("s/b/\\\\&/", "abc", "a\\bc\n");
        Feed.dueOutput("s/./&&/g", "abc", "aabbcc\n");
    }

    private static void ownChars() {
        Check.sentence("every other item stands for its own char (an escaped '&' is a plain '&').");
        Feed.dueOutput("s/b/\\&/", "abc", "a&c\n");
        Feed.dueOutput("s/b/\\&&/", "abc", "a&bc\n");
        Feed.dueOutput("s/b/X/", "abcb", "aXcb\n");
        Feed.dueOutput("s/b/\\x\\1/", "abc", "ax1c\n");
        Feed.dueOutput("s/b/*.^$/", "abc", "a*.^$c\n");
        Feed.dueOutput("s/b/^/", "abc", "a^c\n");
        Feed.dueOutput("s/b/$/", "abc", "a$c\n");
    }

    private static void emptyReplacement() {
        Check.sentence("It may be empty.");
        Scripts.accepted(1, "s/a//", "s/a//g", "1s/a// ");
        Feed.dueOutput("s/b//", "abcb", "acb\n");
        Feed.dueOutput("s/b//g", "abcb", "ac\n");
        Feed.dueOutput("s/.*//", "abc", "\n");
    }
}
